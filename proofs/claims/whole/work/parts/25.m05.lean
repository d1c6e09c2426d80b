def zf_X10_puts_L78 (q : Nat) (y1 : Int32) (y2 : Int32) (y4 : Int32) : Nat → zc_H → Int32 → Option (zc_H)
  | 0, _, _ => none
  | n + 1, h, y6 =>
    if y6 < y4 then
      some h
    else
    (zf_X10_of h q 1 y1).bind fun r18 =>
    (zf_gr h q 10 30).bind fun v19 =>
    v19.bind fun a21 =>
    (zf_ai h a21 0 y6).bind fun v22 =>
    (zf_X10_steps h q y2 r18 v22).bind fun r23 =>
    zf_X10_puts_L78 q y1 y2 y4 n r23 (y6 + (-1))
def zf_X10_puts (h : zc_H) (q : Nat) (x1 : Int32) (x2 : Int32) (x3 : Int32) (x4 : Int32) : Option (zc_H × Int32) :=
  if ¬ zf_is h q 10 = true then none else
  (zf_X10_of h q 2 x1).bind fun r1 =>
  (zf_X10_behind h q x3 r1).bind fun r2 =>
  if r2.2 = (-1) then
    some (r2.1, 0)
  else
  (zf_p r2.1 q 10 33 (.int (0))).bind fun h4 =>
  (zf_X10_of h4 q 3 x1).bind fun r5 =>
  (zf_p h4 q 10 31 (.int (r5))).bind fun h6 =>
  (zf_X10_of h6 q 4 x1).bind fun r7 =>
  (zf_p h6 q 10 32 (.int (r7))).bind fun h8 =>
  (zf_X10_of h8 q 2 x1).bind fun r9 =>
  (zf_p h8 q 10 34 (.int (r9))).bind fun h10 =>
  (zf_gi h10 q 10 31).bind fun v11 =>
  (zf_p h10 q 10 35 (.int (v11))).bind fun h13 =>
  (zf_gi h13 q 10 32).bind fun v14 =>
  (zf_p h13 q 10 36 (.int (v14))).bind fun h16 =>
  (zf_X10_puts_L78 q x1 x2 x4 2000 h16 (r2.2 - 1)).bind fun w24 =>
  some (w24, 1)
abbrev zr_X10_puts : Room := { frames := 4, cells := 0, slots := 0, locals := 114 }
theorem zi_X10_puts {h : zc_H} {q : Nat} {x1 : Int32} {x2 : Int32} {x3 : Int32} {x4 : Int32} {res : zc_H × Int32} (hf : zf_X10_puts h q x1 x2 x3 x4 = some res) : zf_is h q 10 = true := Decidable.not_not.mp (zo_n hf).1
set_option maxHeartbeats 4000000 in
set_option maxRecDepth 20000 in
theorem zt_X10_puts (l : Launch) (g : zc_G) (h : zc_H) (q : Nat) (x1 : Int32) (x2 : Int32) (x3 : Int32) (x4 : Int32) (res : zc_H × Int32) (hf : zf_X10_puts h q x1 x2 x3 x4 = some res) : zc_M l g yX10_puts cX10_puts 7 (some .boolean) zr_X10_puts h [va_rf ((some q)), .int (x1), .int (x2), .int (x3), .int (x4)] res.1 (some (.int (res.2))) := by
  refine zc_M.of (by decide) (by simp [lg_sl, zv_cat, zv_ci, zv_cj]) ?_
  intro p e s m below meth c ls S hK hw hr hlk hnm hl
  replace S : CallFix p m c cX10_puts 7 s [va_rf ((some q)), .int (x1), .int (x2), .int (x3), .int (x4)].toArray (zc_ws yX10_puts cX10_puts 7 (some .boolean)) RX10 := S
  have hx := S.1
  have hb := S.2.1
  replace hl : lv_has ls 7 [(0, va_rf ((some q))), (1, .int (x1)), (2, .int (x2)), (3, .int (x3)), (4, .int (x4))] := by simpa [lv_args, zv_cat, zv_ci, zv_cj] using hl
  generalize s.heap = H at hw ⊢
  obtain ⟨locs, hlocs⟩ : ∃ L : List Loc, L = [] := ⟨_, rfl⟩
  rw [← hlocs] at hw ⊢
  have L78 : ∀ (y1 : Int32) (y2 : Int32) (y4 : Int32) (n : Nat) (h : zc_H) (y6 : Int32) (w : zc_H) (H : Heap) (locs : List Loc) (ls : Array Slot), zf_X10_puts_L78 q y1 y2 y4 n h y6 = some w → zc_W g h H locs → lv_has ls 7 [(0, va_rf ((some q))), (1, .int (y1)), (2, .int (y2)), (4, .int (y4)), (6, .int (y6))] → (∀ (H : Heap) (locs : List Loc) (ls : Array Slot), zc_W g w H locs → lv_has ls 7 [] → W p l e zr_X10_puts s m [va_rf ((some q)), .int (x1), .int (x2), .int (x3), .int (x4)].toArray below meth c H locs 0 0 (zc_Q g below zr_X10_puts (some (.int (res.2))) res.1 [va_rf ((some q)), .int (x1), .int (x2), .int (x3), .int (x4)] s) (F0 m 109 ls [])) → W p l e zr_X10_puts s m [va_rf ((some q)), .int (x1), .int (x2), .int (x3), .int (x4)].toArray below meth c H locs 0 0 (zc_Q g below zr_X10_puts (some (.int (res.2))) res.1 [va_rf ((some q)), .int (x1), .int (x2), .int (x3), .int (x4)] s) (F0 m 78 ls []) := by
    intro y1 y2 y4 n
    induction n with
    | zero =>
      intro h y6 w H locs ls hf
      cases hf
    | succ n ih =>
      intro h y6 w H locs ls hf hw hl  kk
      unfold zf_X10_puts_L78 at hf
      refine lv_iload hx hb zd_X10_puts_78 (lv_at hl 4 rfl) ?_
      refine lv_iload hx hb zd_X10_puts_80 (lv_at hl 3 rfl) ?_
      refine lv_icmp_lt (tgt := 109) hx hb zd_X10_puts_82 (by decide) (fun c17 => ?_) (fun c17 => ?_)
      · replace hf := zo_t c17 hf
        have hres := Option.some.inj hf; subst hres
        exact kk _ _ _ hw (lv_sub hl [] rfl)
      · replace hf := zo_f c17 hf
        refine zl_aload_n hx hb zd_X10_puts_85 rfl (lv_at hl 0 rfl) ?_
        refine lv_iload_n hx hb zd_X10_puts_86 rfl (lv_at hl 2 rfl) ?_
        refine zl_aload_n hx hb zd_X10_puts_87 rfl (lv_at hl 0 rfl) ?_
        refine lv_iconst (v := 1) hx hb zd_X10_puts_88 (by decide) ?_
        refine lv_iload_n hx hb zd_X10_puts_89 rfl (lv_at hl 1 rfl) ?_
        replace hf := zo_b hf; obtain ⟨r18, er18, hf⟩ := hf
        refine zw_callV (n := 2) (ci := 10) (q := zc_cl[10]) (As := [.int (1), .int (y1)]) (rest := [.int (y2), va_rf ((some q))]) S hK hw (zt_X10_of l g h q 1 y1 _ er18) zm_1259 zm_1261 zm_28 zq_X10_of zm_79 (by decide +kernel) ⟨Nat.le_of_ble_eq_true rfl, Nat.le_of_ble_eq_true rfl⟩ rfl rfl rfl (zi_X10_of er18) hl.1 rfl (by simp [zv_cat, zv_ci, zv_cj]) zd_X10_puts_90 ⟨(Nat.le_refl 0), (Nat.le_refl 0)⟩ (fun H locs hw => ?_)
        replace hw : zc_W g h H locs := hw
        refine zl_aload_n hx hb zd_X10_puts_93 rfl (lv_at hl 0 rfl) ?_
        replace hf := zo_b hf; obtain ⟨v19, ev19, hf⟩ := hf
        obtain ⟨u20, u20e, u20v⟩ := zo_b ev19
        obtain rfl := zv_r_e u20v
        refine zw_get S hK hw zk_10 (k := 30) (by decide) rfl zm_1118 (Or.inl rfl) u20e zd_X10_puts_94 ?_
        refine lv_iload hx hb zd_X10_puts_97 (lv_at hl 4 rfl) ?_
        replace hf := zo_b hf; obtain ⟨a21, na21, hf⟩ := hf
        refine W.eq (g2 := F0 m 99 ls [.int (y6), va_rf ((some a21)), .int (r18), .int (y2), va_rf ((some q))]) (by rw [na21] <;> rfl) ?_
        replace hf := zo_b hf; obtain ⟨v22, ev22, hf⟩ := hf
        refine zw_iald S hK hw ev22 zd_X10_puts_99 ?_
        replace hf := zo_b hf; obtain ⟨r23, er23, hf⟩ := hf
        refine zw_callV (n := 3) (ci := 10) (q := zc_cl[10]) (As := [.int (y2), .int (r18), .int (v22)]) (rest := []) S hK hw (zt_X10_steps l g h q y2 r18 v22 _ er23) zm_1407 zm_1409 zm_49 zq_X10_steps zm_79 (by decide +kernel) ⟨Nat.le_of_ble_eq_true rfl, Nat.le_of_ble_eq_true rfl⟩ rfl rfl rfl (zi_X10_steps er23) hl.1 rfl (by simp [zv_cat, zv_ci, zv_cj]) zd_X10_puts_100 ⟨(Nat.le_refl 0), (Nat.le_refl 0)⟩ (fun H locs hw => ?_)
        replace hw : zc_W g r23 H locs := hw
        refine lv_iinc (i := 6) (v := (y6 + (-1))) (lv' := [(6, .int ((y6 + (-1)))), (0, va_rf ((some q))), (1, .int (y1)), (2, .int (y2)), (4, .int (y4))]) hx hb zd_X10_puts_103 hl (k := 4) rfl (congrArg (_ + ·) (by decide)) (by decide) rfl (fun ls hl => ?_)
        refine lv_goto (tgt := 78) hx hb zd_X10_puts_106 (by decide) ?_
        exact ih r23 (y6 + (-1)) _ _ _ _ hf hw (lv_sub hl [1, 2, 3, 4, 0] rfl) kk
  unfold zf_X10_puts at hf
  obtain ⟨-, hf⟩ := zo_n hf
  refine zl_aload_n hx hb zd_X10_puts_0 rfl (lv_at hl 0 rfl) ?_
  refine lv_iload_n hx hb zd_X10_puts_1 rfl (lv_at hl 3 rfl) ?_
  refine zl_aload_n hx hb zd_X10_puts_2 rfl (lv_at hl 0 rfl) ?_
  refine lv_iconst (v := 2) hx hb zd_X10_puts_3 (by decide) ?_
  refine lv_iload_n hx hb zd_X10_puts_4 rfl (lv_at hl 1 rfl) ?_
  replace hf := zo_b hf; obtain ⟨r1, er1, hf⟩ := hf
  refine zw_callV (n := 2) (ci := 10) (q := zc_cl[10]) (As := [.int (2), .int (x1)]) (rest := [.int (x3), va_rf ((some q))]) S hK hw (zt_X10_of l g h q 2 x1 _ er1) zm_1259 zm_1261 zm_28 zq_X10_of zm_79 (by decide +kernel) ⟨Nat.le_of_ble_eq_true rfl, Nat.le_of_ble_eq_true rfl⟩ rfl rfl rfl (zi_X10_of er1) hl.1 rfl (by simp [zv_cat, zv_ci, zv_cj]) zd_X10_puts_5 ⟨(Nat.le_refl 0), (Nat.le_refl 0)⟩ (fun H locs hw => ?_)
  replace hw : zc_W g h H locs := hw
  replace hf := zo_b hf; obtain ⟨r2, er2, hf⟩ := hf
  refine zw_callV (n := 2) (ci := 10) (q := zc_cl[10]) (As := [.int (x3), .int (r1)]) (rest := []) S hK hw (zt_X10_behind l g h q x3 r1 _ er2) zm_1355 zm_1357 zm_41 zq_X10_behind zm_79 (by decide +kernel) ⟨Nat.le_of_ble_eq_true rfl, Nat.le_of_ble_eq_true rfl⟩ rfl rfl rfl (zi_X10_behind er2) hl.1 rfl (by simp [zv_cat, zv_ci, zv_cj]) zd_X10_puts_8 ⟨(Nat.le_refl 0), (Nat.le_refl 0)⟩ (fun H locs hw => ?_)
  replace hw : zc_W g r2.1 H locs := hw
  refine lv_istore (i := 5) (lv' := [(5, .int (r2.2)), (0, va_rf ((some q))), (1, .int (x1)), (2, .int (x2)), (3, .int (x3)), (4, .int (x4))]) hx hb zd_X10_puts_11 hl (by decide) rfl (fun ls hl => ?_)
  refine lv_iload hx hb zd_X10_puts_13 (lv_at hl 0 rfl) ?_
  refine lv_iconst (v := (-1)) hx hb zd_X10_puts_15 (by decide) ?_
  refine lv_icmp_ne (tgt := 21) hx hb zd_X10_puts_16 (by decide) (fun c3 => ?_) (fun c3 => ?_)
  · replace hf := zo_f c3 hf
    refine zl_aload_n hx hb zd_X10_puts_21 rfl (lv_at hl 1 rfl) ?_
    refine lv_iconst (v := 0) hx hb zd_X10_puts_22 (by decide) ?_
    replace hf := zo_b hf; obtain ⟨h4, eh4, hf⟩ := hf
    refine zw_put S hK hw zk_10 (k := 33) (by decide) rfl zm_1121 (Or.inl rfl) eh4 (ty := .int) (by decide +kernel) rfl rfl zd_X10_puts_23 (fun H locs hw => ?_)
    refine zl_aload_n hx hb zd_X10_puts_26 rfl (lv_at hl 1 rfl) ?_
    refine zl_aload_n hx hb zd_X10_puts_27 rfl (lv_at hl 1 rfl) ?_
    refine lv_iconst (v := 3) hx hb zd_X10_puts_28 (by decide) ?_
    refine lv_iload_n hx hb zd_X10_puts_29 rfl (lv_at hl 2 rfl) ?_
    replace hf := zo_b hf; obtain ⟨r5, er5, hf⟩ := hf
    refine zw_callV (n := 2) (ci := 10) (q := zc_cl[10]) (As := [.int (3), .int (x1)]) (rest := [va_rf ((some q))]) S hK hw (zt_X10_of l g h4 q 3 x1 _ er5) zm_1259 zm_1261 zm_28 zq_X10_of zm_79 (by decide +kernel) ⟨Nat.le_of_ble_eq_true rfl, Nat.le_of_ble_eq_true rfl⟩ rfl rfl rfl (zi_X10_of er5) hl.1 rfl (by simp [zv_cat, zv_ci, zv_cj]) zd_X10_puts_30 ⟨(Nat.le_refl 0), (Nat.le_refl 0)⟩ (fun H locs hw => ?_)
    replace hw : zc_W g h4 H locs := hw
    replace hf := zo_b hf; obtain ⟨h6, eh6, hf⟩ := hf
    refine zw_put S hK hw zk_10 (k := 31) (by decide) rfl zm_1119 (Or.inl rfl) eh6 (ty := .int) (by decide +kernel) rfl rfl zd_X10_puts_33 (fun H locs hw => ?_)
    refine zl_aload_n hx hb zd_X10_puts_36 rfl (lv_at hl 1 rfl) ?_
    refine zl_aload_n hx hb zd_X10_puts_37 rfl (lv_at hl 1 rfl) ?_
    refine lv_iconst (v := 4) hx hb zd_X10_puts_38 (by decide) ?_
    refine lv_iload_n hx hb zd_X10_puts_39 rfl (lv_at hl 2 rfl) ?_
    replace hf := zo_b hf; obtain ⟨r7, er7, hf⟩ := hf
    refine zw_callV (n := 2) (ci := 10) (q := zc_cl[10]) (As := [.int (4), .int (x1)]) (rest := [va_rf ((some q))]) S hK hw (zt_X10_of l g h6 q 4 x1 _ er7) zm_1259 zm_1261 zm_28 zq_X10_of zm_79 (by decide +kernel) ⟨Nat.le_of_ble_eq_true rfl, Nat.le_of_ble_eq_true rfl⟩ rfl rfl rfl (zi_X10_of er7) hl.1 rfl (by simp [zv_cat, zv_ci, zv_cj]) zd_X10_puts_40 ⟨(Nat.le_refl 0), (Nat.le_refl 0)⟩ (fun H locs hw => ?_)
    replace hw : zc_W g h6 H locs := hw
    replace hf := zo_b hf; obtain ⟨h8, eh8, hf⟩ := hf
    refine zw_put S hK hw zk_10 (k := 32) (by decide) rfl zm_1120 (Or.inl rfl) eh8 (ty := .int) (by decide +kernel) rfl rfl zd_X10_puts_43 (fun H locs hw => ?_)
    refine zl_aload_n hx hb zd_X10_puts_46 rfl (lv_at hl 1 rfl) ?_
    refine zl_aload_n hx hb zd_X10_puts_47 rfl (lv_at hl 1 rfl) ?_
    refine lv_iconst (v := 2) hx hb zd_X10_puts_48 (by decide) ?_
    refine lv_iload_n hx hb zd_X10_puts_49 rfl (lv_at hl 2 rfl) ?_
    replace hf := zo_b hf; obtain ⟨r9, er9, hf⟩ := hf
    refine zw_callV (n := 2) (ci := 10) (q := zc_cl[10]) (As := [.int (2), .int (x1)]) (rest := [va_rf ((some q))]) S hK hw (zt_X10_of l g h8 q 2 x1 _ er9) zm_1259 zm_1261 zm_28 zq_X10_of zm_79 (by decide +kernel) ⟨Nat.le_of_ble_eq_true rfl, Nat.le_of_ble_eq_true rfl⟩ rfl rfl rfl (zi_X10_of er9) hl.1 rfl (by simp [zv_cat, zv_ci, zv_cj]) zd_X10_puts_50 ⟨(Nat.le_refl 0), (Nat.le_refl 0)⟩ (fun H locs hw => ?_)
    replace hw : zc_W g h8 H locs := hw
    replace hf := zo_b hf; obtain ⟨h10, eh10, hf⟩ := hf
    refine zw_put S hK hw zk_10 (k := 34) (by decide) rfl zm_1122 (Or.inl rfl) eh10 (ty := .int) (by decide +kernel) rfl rfl zd_X10_puts_53 (fun H locs hw => ?_)
    refine zl_aload_n hx hb zd_X10_puts_56 rfl (lv_at hl 1 rfl) ?_
    refine zl_aload_n hx hb zd_X10_puts_57 rfl (lv_at hl 1 rfl) ?_
    replace hf := zo_b hf; obtain ⟨v11, ev11, hf⟩ := hf
    obtain ⟨u12, u12e, u12v⟩ := zo_b ev11
    obtain rfl := zv_i_e u12v
    refine zw_get S hK hw zk_10 (k := 31) (by decide) rfl zm_1119 (Or.inl rfl) u12e zd_X10_puts_58 ?_
    replace hf := zo_b hf; obtain ⟨h13, eh13, hf⟩ := hf
    refine zw_put S hK hw zk_10 (k := 35) (by decide) rfl zm_1123 (Or.inl rfl) eh13 (ty := .int) (by decide +kernel) rfl rfl zd_X10_puts_61 (fun H locs hw => ?_)
    refine zl_aload_n hx hb zd_X10_puts_64 rfl (lv_at hl 1 rfl) ?_
    refine zl_aload_n hx hb zd_X10_puts_65 rfl (lv_at hl 1 rfl) ?_
    replace hf := zo_b hf; obtain ⟨v14, ev14, hf⟩ := hf
    obtain ⟨u15, u15e, u15v⟩ := zo_b ev14
    obtain rfl := zv_i_e u15v
    refine zw_get S hK hw zk_10 (k := 32) (by decide) rfl zm_1120 (Or.inl rfl) u15e zd_X10_puts_66 ?_
    replace hf := zo_b hf; obtain ⟨h16, eh16, hf⟩ := hf
    refine zw_put S hK hw zk_10 (k := 36) (by decide) rfl zm_1124 (Or.inl rfl) eh16 (ty := .int) (by decide +kernel) rfl rfl zd_X10_puts_69 (fun H locs hw => ?_)
    refine lv_iload hx hb zd_X10_puts_72 (lv_at hl 0 rfl) ?_
    refine lv_iconst (v := 1) hx hb zd_X10_puts_74 (by decide) ?_
    refine lv_isub hx hb zd_X10_puts_75 ?_
    refine lv_istore (i := 6) (lv' := [(6, .int ((r2.2 - 1))), (5, .int (r2.2)), (0, va_rf ((some q))), (1, .int (x1)), (2, .int (x2)), (3, .int (x3)), (4, .int (x4))]) hx hb zd_X10_puts_76 hl (by decide) rfl (fun ls hl => ?_)
    replace hf := zo_b hf; obtain ⟨w24, w24e, hf⟩ := hf
    refine L78 x1 x2 x4 2000 h16 (r2.2 - 1) _ _ _ _ w24e hw (lv_sub hl [2, 3, 4, 6, 0] rfl) (fun H locs ls hw hl => ?_)
    refine lv_iconst (v := 1) hx hb zd_X10_puts_109 (by decide) ?_
    have hres := Option.some.inj hf; subst hres
    exact zw_iret (v := 1) (ty := .boolean) hx hb hr hlk rfl hw zd_X10_puts_110 (Nat.le_refl 0) (Nat.le_refl 0)
  · replace hf := zo_t c3 hf
    refine lv_iconst (v := 0) hx hb zd_X10_puts_19 (by decide) ?_
    have hres := Option.some.inj hf; subst hres
    exact zw_iret (v := 0) (ty := .boolean) hx hb hr hlk rfl hw zd_X10_puts_20 (Nat.le_refl 0) (Nat.le_refl 0)
def zf_X10_put (h : zc_H) (q : Nat) (x1 : Int32) (x2 : Int32) (x3 : Int32) : Option (zc_H × Int32) :=
  if ¬ zf_is h q 10 = true then none else
  (zf_X10_isRemark h q x1).bind fun r1 =>
  let k16 := fun (_ : Unit) =>
    (zf_X10_no10 h q (-1)).bind fun r3 =>
    some (r3.1, r3.2)
  if r1 = 0 then
    k16 ()
  else
  (zf_X10_isRevision h q x2).bind fun r4 =>
  if r4 = 0 then
    k16 ()
  else
  (zf_X10_within h x3 0 2).bind fun r6 =>
  if r6 = 0 then
    (zf_X10_no10 h q (-5)).bind fun r20 =>
    some (r20.1, r20.2)
  else
  (zf_X10_of h q 0 x1).bind fun r8 =>
  (zf_X10_puts h q x1 r8 x2 0).bind fun r9 =>
  if r9.2 = 0 then
    (zf_X10_no10 r9.1 q (-6)).bind fun r19 =>
    some (r19.1, r19.2)
  else
  if x3 = 0 then
    (zf_gi r9.1 q 10 31).bind fun v17 =>
    some (r9.1, v17)
  else
  if x3 = 1 then
    (zf_gi r9.1 q 10 32).bind fun v15 =>
    some (r9.1, v15)
  else
  (zf_gi r9.1 q 10 33).bind fun v13 =>
  some (r9.1, v13)
abbrev zr_X10_put : Room := { frames := 5, cells := 0, slots := 0, locals := 140 }
theorem zi_X10_put {h : zc_H} {q : Nat} {x1 : Int32} {x2 : Int32} {x3 : Int32} {res : zc_H × Int32} (hf : zf_X10_put h q x1 x2 x3 = some res) : zf_is h q 10 = true := Decidable.not_not.mp (zo_n hf).1
set_option maxHeartbeats 4000000 in
set_option maxRecDepth 20000 in
theorem zt_X10_put (l : Launch) (g : zc_G) (h : zc_H) (q : Nat) (x1 : Int32) (x2 : Int32) (x3 : Int32) (res : zc_H × Int32) (hf : zf_X10_put h q x1 x2 x3 = some res) : zc_M l g yX10_put cX10_put 4 (some .int) zr_X10_put h [va_rf ((some q)), .int (x1), .int (x2), .int (x3)] res.1 (some (.int (res.2))) := by
  refine zc_M.of (by decide) (by simp [lg_sl, zv_cat, zv_ci, zv_cj]) ?_
  intro p e s m below meth c ls S hK hw hr hlk hnm hl
  replace S : CallFix p m c cX10_put 4 s [va_rf ((some q)), .int (x1), .int (x2), .int (x3)].toArray (zc_ws yX10_put cX10_put 4 (some .int)) RX10 := S
  have hx := S.1
  have hb := S.2.1
  replace hl : lv_has ls 4 [(0, va_rf ((some q))), (1, .int (x1)), (2, .int (x2)), (3, .int (x3))] := by simpa [lv_args, zv_cat, zv_ci, zv_cj] using hl
  generalize s.heap = H at hw ⊢
  obtain ⟨locs, hlocs⟩ : ∃ L : List Loc, L = [] := ⟨_, rfl⟩
  rw [← hlocs] at hw ⊢
  unfold zf_X10_put at hf
  obtain ⟨-, hf⟩ := zo_n hf
  refine zl_aload_n hx hb zd_X10_put_0 rfl (lv_at hl 0 rfl) ?_
  refine lv_iload_n hx hb zd_X10_put_1 rfl (lv_at hl 1 rfl) ?_
  replace hf := zo_b hf; obtain ⟨r1, er1, hf⟩ := hf
  refine zw_callV (n := 1) (ci := 10) (q := zc_cl[10]) (As := [.int (x1)]) (rest := []) S hK hw (zt_X10_isRemark l g h q x1 _ er1) zm_1247 zm_1249 zm_27 zq_X10_isRemark zm_79 (by decide +kernel) ⟨Nat.le_of_ble_eq_true rfl, Nat.le_of_ble_eq_true rfl⟩ rfl rfl rfl (zi_X10_isRemark er1) hl.1 rfl (by simp [zv_cat, zv_ci, zv_cj]) zd_X10_put_2 ⟨(Nat.le_refl 0), (Nat.le_refl 0)⟩ (fun H locs hw => ?_)
  replace hw : zc_W g h H locs := hw
  have k16h : ∀ (_ : Unit) (H : Heap) (locs : List Loc) (ls : Array Slot), (
      (zf_X10_no10 h q (-1)).bind fun r3 =>
      some (r3.1, r3.2)
      ) = some res → zc_W g h H locs → lv_has ls 4 [(0, va_rf ((some q)))] → W p l e zr_X10_put s m [va_rf ((some q)), .int (x1), .int (x2), .int (x3)].toArray below meth c H locs (0 + 0) (0 + 0) (zc_Q g below zr_X10_put (some (.int (res.2))) res.1 [va_rf ((some q)), .int (x1), .int (x2), .int (x3)] s) (F0 m 16 ls []) := by
    intro _ H locs ls hf hw hl
    refine zl_aload_n hx hb zd_X10_put_16 rfl (lv_at hl 0 rfl) ?_
    refine lv_iconst (v := (-1)) hx hb zd_X10_put_17 (by decide) ?_
    replace hf := zo_b hf; obtain ⟨r3, er3, hf⟩ := hf
    refine zw_callV (n := 1) (ci := 10) (q := zc_cl[10]) (As := [.int ((-1))]) (rest := []) S hK hw (zt_X10_no10 l g h q (-1) _ er3) zm_1335 zm_1337 zm_40 zq_X10_no10 zm_79 (by decide +kernel) ⟨Nat.le_of_ble_eq_true rfl, Nat.le_of_ble_eq_true rfl⟩ rfl rfl rfl (zi_X10_no10 er3) hl.1 rfl (by simp [zv_cat, zv_ci, zv_cj]) zd_X10_put_18 ⟨(Nat.le_refl 0), (Nat.le_refl 0)⟩ (fun H locs hw => ?_)
    replace hw : zc_W g r3.1 H locs := hw
    have hres := Option.some.inj hf; subst hres
    exact zw_iret (v := r3.2) (ty := .int) hx hb hr hlk rfl hw zd_X10_put_21 (Nat.le_refl 0) (Nat.le_refl 0)
  refine lv_if_eq (tgt := 16) hx hb zd_X10_put_5 (by decide) (fun c2 => ?_) (fun c2 => ?_)
  · replace hf := zo_t c2 hf
    exact k16h () _ _ _ hf hw (lv_sub hl [0] rfl)
  · replace hf := zo_f c2 hf
    refine zl_aload_n hx hb zd_X10_put_8 rfl (lv_at hl 0 rfl) ?_
    refine lv_iload_n hx hb zd_X10_put_9 rfl (lv_at hl 2 rfl) ?_
    replace hf := zo_b hf; obtain ⟨r4, er4, hf⟩ := hf
    refine zw_callV (n := 1) (ci := 10) (q := zc_cl[10]) (As := [.int (x2)]) (rest := []) S hK hw (zt_X10_isRevision l g h q x2 _ er4) zm_1273 zm_1275 zm_29 zq_X10_isRevision zm_79 (by decide +kernel) ⟨Nat.le_of_ble_eq_true rfl, Nat.le_of_ble_eq_true rfl⟩ rfl rfl rfl (zi_X10_isRevision er4) hl.1 rfl (by simp [zv_cat, zv_ci, zv_cj]) zd_X10_put_10 ⟨(Nat.le_refl 0), (Nat.le_refl 0)⟩ (fun H locs hw => ?_)
    replace hw : zc_W g h H locs := hw
    refine lv_if_ne (tgt := 22) hx hb zd_X10_put_13 (by decide) (fun c5 => ?_) (fun c5 => ?_)
    · replace hf := zo_f c5 hf
      refine lv_iload_n hx hb zd_X10_put_22 rfl (lv_at hl 3 rfl) ?_
      refine lv_iconst (v := 0) hx hb zd_X10_put_23 (by decide) ?_
      refine lv_iconst (v := 2) hx hb zd_X10_put_24 (by decide) ?_
      replace hf := zo_b hf; obtain ⟨r6, er6, hf⟩ := hf
      refine zw_callS (n := 3) (As := [.int (x3), .int (0), .int (2)]) (rest := []) S hK hw (zt_X10_within l g h x3 0 2 _ er6) zm_1216 zm_1217 zq_X10_within zm_79 (by decide +kernel) ⟨Nat.le_of_ble_eq_true rfl, Nat.le_of_ble_eq_true rfl⟩ rfl hl.1 rfl (by simp [zv_cat, zv_ci, zv_cj]) zd_X10_put_25 ⟨(Nat.le_refl 0), (Nat.le_refl 0)⟩ (fun H locs hw => ?_)
      replace hw : zc_W g h H locs := hw
      refine lv_if_ne (tgt := 38) hx hb zd_X10_put_28 (by decide) (fun c7 => ?_) (fun c7 => ?_)
      · replace hf := zo_f c7 hf
        refine zl_aload_n hx hb zd_X10_put_38 rfl (lv_at hl 0 rfl) ?_
        refine lv_iload_n hx hb zd_X10_put_39 rfl (lv_at hl 1 rfl) ?_
        refine zl_aload_n hx hb zd_X10_put_40 rfl (lv_at hl 0 rfl) ?_
        refine lv_iconst (v := 0) hx hb zd_X10_put_41 (by decide) ?_
        refine lv_iload_n hx hb zd_X10_put_42 rfl (lv_at hl 1 rfl) ?_
        replace hf := zo_b hf; obtain ⟨r8, er8, hf⟩ := hf
        refine zw_callV (n := 2) (ci := 10) (q := zc_cl[10]) (As := [.int (0), .int (x1)]) (rest := [.int (x1), va_rf ((some q))]) S hK hw (zt_X10_of l g h q 0 x1 _ er8) zm_1259 zm_1261 zm_28 zq_X10_of zm_79 (by decide +kernel) ⟨Nat.le_of_ble_eq_true rfl, Nat.le_of_ble_eq_true rfl⟩ rfl rfl rfl (zi_X10_of er8) hl.1 rfl (by simp [zv_cat, zv_ci, zv_cj]) zd_X10_put_43 ⟨(Nat.le_refl 0), (Nat.le_refl 0)⟩ (fun H locs hw => ?_)
        replace hw : zc_W g h H locs := hw
        refine lv_iload_n hx hb zd_X10_put_46 rfl (lv_at hl 2 rfl) ?_
        refine lv_iconst (v := 0) hx hb zd_X10_put_47 (by decide) ?_
        replace hf := zo_b hf; obtain ⟨r9, er9, hf⟩ := hf
        refine zw_callV (n := 4) (ci := 10) (q := zc_cl[10]) (As := [.int (x1), .int (r8), .int (x2), .int (0)]) (rest := []) S hK hw (zt_X10_puts l g h q x1 r8 x2 0 _ er9) zm_1403 zm_1405 zm_48 zq_X10_puts zm_79 (by decide +kernel) ⟨Nat.le_of_ble_eq_true rfl, Nat.le_of_ble_eq_true rfl⟩ rfl rfl rfl (zi_X10_puts er9) hl.1 rfl (by simp [zv_cat, zv_ci, zv_cj]) zd_X10_put_48 ⟨(Nat.le_refl 0), (Nat.le_refl 0)⟩ (fun H locs hw => ?_)
        replace hw : zc_W g r9.1 H locs := hw
        refine lv_if_ne (tgt := 61) hx hb zd_X10_put_51 (by decide) (fun c10 => ?_) (fun c10 => ?_)
        · replace hf := zo_f c10 hf
          refine lv_iload_n hx hb zd_X10_put_61 rfl (lv_at hl 3 rfl) ?_
          refine lv_if_ne (tgt := 72) hx hb zd_X10_put_62 (by decide) (fun c11 => ?_) (fun c11 => ?_)
          · replace hf := zo_f c11 hf
            refine lv_iload_n hx hb zd_X10_put_72 rfl (lv_at hl 3 rfl) ?_
            refine lv_iconst (v := 1) hx hb zd_X10_put_73 (by decide) ?_
            refine lv_icmp_ne (tgt := 84) hx hb zd_X10_put_74 (by decide) (fun c12 => ?_) (fun c12 => ?_)
            · replace hf := zo_f c12 hf
              refine zl_aload_n hx hb zd_X10_put_84 rfl (lv_at hl 0 rfl) ?_
              replace hf := zo_b hf; obtain ⟨v13, ev13, hf⟩ := hf
              obtain ⟨u14, u14e, u14v⟩ := zo_b ev13
              obtain rfl := zv_i_e u14v
              refine zw_get S hK hw zk_10 (k := 33) (by decide) rfl zm_1121 (Or.inl rfl) u14e zd_X10_put_85 ?_
              have hres := Option.some.inj hf; subst hres
              exact zw_iret (v := v13) (ty := .int) hx hb hr hlk rfl hw zd_X10_put_88 (Nat.le_refl 0) (Nat.le_refl 0)
            · replace hf := zo_t c12 hf
              refine zl_aload_n hx hb zd_X10_put_77 rfl (lv_at hl 0 rfl) ?_
              replace hf := zo_b hf; obtain ⟨v15, ev15, hf⟩ := hf
              obtain ⟨u16, u16e, u16v⟩ := zo_b ev15
              obtain rfl := zv_i_e u16v
              refine zw_get S hK hw zk_10 (k := 32) (by decide) rfl zm_1120 (Or.inl rfl) u16e zd_X10_put_78 ?_
              refine lv_goto (tgt := 88) hx hb zd_X10_put_81 (by decide) ?_
              have hres := Option.some.inj hf; subst hres
              exact zw_iret (v := v15) (ty := .int) hx hb hr hlk rfl hw zd_X10_put_88 (Nat.le_refl 0) (Nat.le_refl 0)
          · replace hf := zo_t c11 hf
            refine zl_aload_n hx hb zd_X10_put_65 rfl (lv_at hl 0 rfl) ?_
            replace hf := zo_b hf; obtain ⟨v17, ev17, hf⟩ := hf
            obtain ⟨u18, u18e, u18v⟩ := zo_b ev17
            obtain rfl := zv_i_e u18v
            refine zw_get S hK hw zk_10 (k := 31) (by decide) rfl zm_1119 (Or.inl rfl) u18e zd_X10_put_66 ?_
            refine lv_goto (tgt := 88) hx hb zd_X10_put_69 (by decide) ?_
            have hres := Option.some.inj hf; subst hres
            exact zw_iret (v := v17) (ty := .int) hx hb hr hlk rfl hw zd_X10_put_88 (Nat.le_refl 0) (Nat.le_refl 0)
        · replace hf := zo_t c10 hf
          refine zl_aload_n hx hb zd_X10_put_54 rfl (lv_at hl 0 rfl) ?_
          refine lv_bipush (v := (-6)) hx hb zd_X10_put_55 (by decide) ?_
          replace hf := zo_b hf; obtain ⟨r19, er19, hf⟩ := hf
          refine zw_callV (n := 1) (ci := 10) (q := zc_cl[10]) (As := [.int ((-6))]) (rest := []) S hK hw (zt_X10_no10 l g r9.1 q (-6) _ er19) zm_1335 zm_1337 zm_40 zq_X10_no10 zm_79 (by decide +kernel) ⟨Nat.le_of_ble_eq_true rfl, Nat.le_of_ble_eq_true rfl⟩ rfl rfl rfl (zi_X10_no10 er19) hl.1 rfl (by simp [zv_cat, zv_ci, zv_cj]) zd_X10_put_57 ⟨(Nat.le_refl 0), (Nat.le_refl 0)⟩ (fun H locs hw => ?_)
          replace hw : zc_W g r19.1 H locs := hw
          have hres := Option.some.inj hf; subst hres
          exact zw_iret (v := r19.2) (ty := .int) hx hb hr hlk rfl hw zd_X10_put_60 (Nat.le_refl 0) (Nat.le_refl 0)
      · replace hf := zo_t c7 hf
        refine zl_aload_n hx hb zd_X10_put_31 rfl (lv_at hl 0 rfl) ?_
        refine lv_bipush (v := (-5)) hx hb zd_X10_put_32 (by decide) ?_
        replace hf := zo_b hf; obtain ⟨r20, er20, hf⟩ := hf
        refine zw_callV (n := 1) (ci := 10) (q := zc_cl[10]) (As := [.int ((-5))]) (rest := []) S hK hw (zt_X10_no10 l g h q (-5) _ er20) zm_1335 zm_1337 zm_40 zq_X10_no10 zm_79 (by decide +kernel) ⟨Nat.le_of_ble_eq_true rfl, Nat.le_of_ble_eq_true rfl⟩ rfl rfl rfl (zi_X10_no10 er20) hl.1 rfl (by simp [zv_cat, zv_ci, zv_cj]) zd_X10_put_34 ⟨(Nat.le_refl 0), (Nat.le_refl 0)⟩ (fun H locs hw => ?_)
        replace hw : zc_W g r20.1 H locs := hw
        have hres := Option.some.inj hf; subst hres
        exact zw_iret (v := r20.2) (ty := .int) hx hb hr hlk rfl hw zd_X10_put_37 (Nat.le_refl 0) (Nat.le_refl 0)
    · replace hf := zo_t c5 hf
      exact k16h () _ _ _ hf hw (lv_sub hl [0] rfl)
def zf_X10_score_ (h : zc_H) (q : Nat) (x1 : Int32) (x2 : Int32) (x3 : Int32) : Option (zc_H × Int32) :=
  if ¬ zf_is h q 10 = true then none else
  (zf_X10_isRemark h q x1).bind fun r1 =>
  let k16 := fun (_ : Unit) =>
    (zf_X10_no h q (-1)).bind fun r3 =>
    some (r3.1, r3.2)
  if r1 = 0 then
    k16 ()
  else
  (zf_X10_isRevision h q x2).bind fun r4 =>
  if r4 = 0 then
    k16 ()
  else
  (zf_X10_of h q 2 x1).bind fun r6 =>
  let k48 := fun (h48j : zc_H) =>
    (zf_X10_no h48j q (-6)).bind fun r8 =>
    some (r8.1, r8.2)
  if x2 = r6 then
    k48 h
  else
  (zf_X10_of h q 0 x1).bind fun r9 =>
  (zf_X10_puts h q x1 r9 x2 1).bind fun r10 =>
  if r10.2 = 0 then
    k48 r10.1
  else
  (zf_X10_placesOn r10.1 q x2).bind fun r12 =>
  (zf_X10_within r10.1 x3 0 (r12 - 1)).bind fun r13 =>
  if r13 = 0 then
    (zf_X10_no r10.1 q (-5)).bind fun r15 =>
    some (r15.1, r15.2)
  else
  (zf_X10_score r10.1 q x2 x3).bind fun r16 =>
  some (r10.1, r16)
abbrev zr_X10_score_ : Room := { frames := 5, cells := 0, slots := 0, locals := 140 }
theorem zi_X10_score_ {h : zc_H} {q : Nat} {x1 : Int32} {x2 : Int32} {x3 : Int32} {res : zc_H × Int32} (hf : zf_X10_score_ h q x1 x2 x3 = some res) : zf_is h q 10 = true := Decidable.not_not.mp (zo_n hf).1
set_option maxHeartbeats 4000000 in
set_option maxRecDepth 20000 in
theorem zt_X10_score_ (l : Launch) (g : zc_G) (h : zc_H) (q : Nat) (x1 : Int32) (x2 : Int32) (x3 : Int32) (res : zc_H × Int32) (hf : zf_X10_score_ h q x1 x2 x3 = some res) : zc_M l g yX10_score_ cX10_score_ 4 (some .int) zr_X10_score_ h [va_rf ((some q)), .int (x1), .int (x2), .int (x3)] res.1 (some (.int (res.2))) := by
  refine zc_M.of (by decide) (by simp [lg_sl, zv_cat, zv_ci, zv_cj]) ?_
  intro p e s m below meth c ls S hK hw hr hlk hnm hl
  replace S : CallFix p m c cX10_score_ 4 s [va_rf ((some q)), .int (x1), .int (x2), .int (x3)].toArray (zc_ws yX10_score_ cX10_score_ 4 (some .int)) RX10 := S
  have hx := S.1
  have hb := S.2.1
  replace hl : lv_has ls 4 [(0, va_rf ((some q))), (1, .int (x1)), (2, .int (x2)), (3, .int (x3))] := by simpa [lv_args, zv_cat, zv_ci, zv_cj] using hl
  generalize s.heap = H at hw ⊢
  obtain ⟨locs, hlocs⟩ : ∃ L : List Loc, L = [] := ⟨_, rfl⟩
  rw [← hlocs] at hw ⊢
  unfold zf_X10_score_ at hf
  obtain ⟨-, hf⟩ := zo_n hf
  refine zl_aload_n hx hb zd_X10_score__0 rfl (lv_at hl 0 rfl) ?_
  refine lv_iload_n hx hb zd_X10_score__1 rfl (lv_at hl 1 rfl) ?_
  replace hf := zo_b hf; obtain ⟨r1, er1, hf⟩ := hf
  refine zw_callV (n := 1) (ci := 10) (q := zc_cl[10]) (As := [.int (x1)]) (rest := []) S hK hw (zt_X10_isRemark l g h q x1 _ er1) zm_1247 zm_1249 zm_27 zq_X10_isRemark zm_79 (by decide +kernel) ⟨Nat.le_of_ble_eq_true rfl, Nat.le_of_ble_eq_true rfl⟩ rfl rfl rfl (zi_X10_isRemark er1) hl.1 rfl (by simp [zv_cat, zv_ci, zv_cj]) zd_X10_score__2 ⟨(Nat.le_refl 0), (Nat.le_refl 0)⟩ (fun H locs hw => ?_)
  replace hw : zc_W g h H locs := hw
  have k16h : ∀ (_ : Unit) (H : Heap) (locs : List Loc) (ls : Array Slot), (
      (zf_X10_no h q (-1)).bind fun r3 =>
      some (r3.1, r3.2)
      ) = some res → zc_W g h H locs → lv_has ls 4 [(0, va_rf ((some q)))] → W p l e zr_X10_score_ s m [va_rf ((some q)), .int (x1), .int (x2), .int (x3)].toArray below meth c H locs (0 + 0) (0 + 0) (zc_Q g below zr_X10_score_ (some (.int (res.2))) res.1 [va_rf ((some q)), .int (x1), .int (x2), .int (x3)] s) (F0 m 16 ls []) := by
    intro _ H locs ls hf hw hl
    refine zl_aload_n hx hb zd_X10_score__16 rfl (lv_at hl 0 rfl) ?_
    refine lv_iconst (v := (-1)) hx hb zd_X10_score__17 (by decide) ?_
    replace hf := zo_b hf; obtain ⟨r3, er3, hf⟩ := hf
    refine zw_callV (n := 1) (ci := 10) (q := zc_cl[10]) (As := [.int ((-1))]) (rest := []) S hK hw (zt_X10_no l g h q (-1) _ er3) zm_1219 zm_1221 zm_24 zq_X10_no zm_79 (by decide +kernel) ⟨Nat.le_of_ble_eq_true rfl, Nat.le_of_ble_eq_true rfl⟩ rfl rfl rfl (zi_X10_no er3) hl.1 rfl (by simp [zv_cat, zv_ci, zv_cj]) zd_X10_score__18 ⟨(Nat.le_refl 0), (Nat.le_refl 0)⟩ (fun H locs hw => ?_)
    replace hw : zc_W g r3.1 H locs := hw
    have hres := Option.some.inj hf; subst hres
    exact zw_iret (v := r3.2) (ty := .int) hx hb hr hlk rfl hw zd_X10_score__21 (Nat.le_refl 0) (Nat.le_refl 0)
  refine lv_if_eq (tgt := 16) hx hb zd_X10_score__5 (by decide) (fun c2 => ?_) (fun c2 => ?_)
  · replace hf := zo_t c2 hf
    exact k16h () _ _ _ hf hw (lv_sub hl [0] rfl)
  · replace hf := zo_f c2 hf
    refine zl_aload_n hx hb zd_X10_score__8 rfl (lv_at hl 0 rfl) ?_
    refine lv_iload_n hx hb zd_X10_score__9 rfl (lv_at hl 2 rfl) ?_
    replace hf := zo_b hf; obtain ⟨r4, er4, hf⟩ := hf
    refine zw_callV (n := 1) (ci := 10) (q := zc_cl[10]) (As := [.int (x2)]) (rest := []) S hK hw (zt_X10_isRevision l g h q x2 _ er4) zm_1273 zm_1275 zm_29 zq_X10_isRevision zm_79 (by decide +kernel) ⟨Nat.le_of_ble_eq_true rfl, Nat.le_of_ble_eq_true rfl⟩ rfl rfl rfl (zi_X10_isRevision er4) hl.1 rfl (by simp [zv_cat, zv_ci, zv_cj]) zd_X10_score__10 ⟨(Nat.le_refl 0), (Nat.le_refl 0)⟩ (fun H locs hw => ?_)
    replace hw : zc_W g h H locs := hw
    refine lv_if_ne (tgt := 22) hx hb zd_X10_score__13 (by decide) (fun c5 => ?_) (fun c5 => ?_)
    · replace hf := zo_f c5 hf
      refine lv_iload_n hx hb zd_X10_score__22 rfl (lv_at hl 2 rfl) ?_
      refine zl_aload_n hx hb zd_X10_score__23 rfl (lv_at hl 0 rfl) ?_
      refine lv_iconst (v := 2) hx hb zd_X10_score__24 (by decide) ?_
      refine lv_iload_n hx hb zd_X10_score__25 rfl (lv_at hl 1 rfl) ?_
      replace hf := zo_b hf; obtain ⟨r6, er6, hf⟩ := hf
      refine zw_callV (n := 2) (ci := 10) (q := zc_cl[10]) (As := [.int (2), .int (x1)]) (rest := [.int (x2)]) S hK hw (zt_X10_of l g h q 2 x1 _ er6) zm_1259 zm_1261 zm_28 zq_X10_of zm_79 (by decide +kernel) ⟨Nat.le_of_ble_eq_true rfl, Nat.le_of_ble_eq_true rfl⟩ rfl rfl rfl (zi_X10_of er6) hl.1 rfl (by simp [zv_cat, zv_ci, zv_cj]) zd_X10_score__26 ⟨(Nat.le_refl 0), (Nat.le_refl 0)⟩ (fun H locs hw => ?_)
      replace hw : zc_W g h H locs := hw
      have k48h : ∀ (h48j : zc_H) (H : Heap) (locs : List Loc) (ls : Array Slot), (
          (zf_X10_no h48j q (-6)).bind fun r8 =>
          some (r8.1, r8.2)
          ) = some res → zc_W g h48j H locs → lv_has ls 4 [(0, va_rf ((some q)))] → W p l e zr_X10_score_ s m [va_rf ((some q)), .int (x1), .int (x2), .int (x3)].toArray below meth c H locs (((0 + 0) + 0) + 0) (((0 + 0) + 0) + 0) (zc_Q g below zr_X10_score_ (some (.int (res.2))) res.1 [va_rf ((some q)), .int (x1), .int (x2), .int (x3)] s) (F0 m 48 ls []) := by
        intro h48j H locs ls hf hw hl
        refine zl_aload_n hx hb zd_X10_score__48 rfl (lv_at hl 0 rfl) ?_
        refine lv_bipush (v := (-6)) hx hb zd_X10_score__49 (by decide) ?_
        replace hf := zo_b hf; obtain ⟨r8, er8, hf⟩ := hf
        refine zw_callV (n := 1) (ci := 10) (q := zc_cl[10]) (As := [.int ((-6))]) (rest := []) S hK hw (zt_X10_no l g h48j q (-6) _ er8) zm_1219 zm_1221 zm_24 zq_X10_no zm_79 (by decide +kernel) ⟨Nat.le_of_ble_eq_true rfl, Nat.le_of_ble_eq_true rfl⟩ rfl rfl rfl (zi_X10_no er8) hl.1 rfl (by simp [zv_cat, zv_ci, zv_cj]) zd_X10_score__51 ⟨(Nat.le_refl 0), (Nat.le_refl 0)⟩ (fun H locs hw => ?_)
        replace hw : zc_W g r8.1 H locs := hw
        have hres := Option.some.inj hf; subst hres
        exact zw_iret (v := r8.2) (ty := .int) hx hb hr hlk rfl hw zd_X10_score__54 (Nat.le_refl 0) (Nat.le_refl 0)
      refine lv_icmp_eq (tgt := 48) hx hb zd_X10_score__29 (by decide) (fun c7 => ?_) (fun c7 => ?_)
      · replace hf := zo_t c7 hf
        exact k48h h _ _ _ hf hw (lv_sub hl [0] rfl)
      · replace hf := zo_f c7 hf
        refine zl_aload_n hx hb zd_X10_score__32 rfl (lv_at hl 0 rfl) ?_
        refine lv_iload_n hx hb zd_X10_score__33 rfl (lv_at hl 1 rfl) ?_
        refine zl_aload_n hx hb zd_X10_score__34 rfl (lv_at hl 0 rfl) ?_
        refine lv_iconst (v := 0) hx hb zd_X10_score__35 (by decide) ?_
        refine lv_iload_n hx hb zd_X10_score__36 rfl (lv_at hl 1 rfl) ?_
        replace hf := zo_b hf; obtain ⟨r9, er9, hf⟩ := hf
        refine zw_callV (n := 2) (ci := 10) (q := zc_cl[10]) (As := [.int (0), .int (x1)]) (rest := [.int (x1), va_rf ((some q))]) S hK hw (zt_X10_of l g h q 0 x1 _ er9) zm_1259 zm_1261 zm_28 zq_X10_of zm_79 (by decide +kernel) ⟨Nat.le_of_ble_eq_true rfl, Nat.le_of_ble_eq_true rfl⟩ rfl rfl rfl (zi_X10_of er9) hl.1 rfl (by simp [zv_cat, zv_ci, zv_cj]) zd_X10_score__37 ⟨(Nat.le_refl 0), (Nat.le_refl 0)⟩ (fun H locs hw => ?_)
        replace hw : zc_W g h H locs := hw
        refine lv_iload_n hx hb zd_X10_score__40 rfl (lv_at hl 2 rfl) ?_
        refine lv_iconst (v := 1) hx hb zd_X10_score__41 (by decide) ?_
        replace hf := zo_b hf; obtain ⟨r10, er10, hf⟩ := hf
        refine zw_callV (n := 4) (ci := 10) (q := zc_cl[10]) (As := [.int (x1), .int (r9), .int (x2), .int (1)]) (rest := []) S hK hw (zt_X10_puts l g h q x1 r9 x2 1 _ er10) zm_1403 zm_1405 zm_48 zq_X10_puts zm_79 (by decide +kernel) ⟨Nat.le_of_ble_eq_true rfl, Nat.le_of_ble_eq_true rfl⟩ rfl rfl rfl (zi_X10_puts er10) hl.1 rfl (by simp [zv_cat, zv_ci, zv_cj]) zd_X10_score__42 ⟨(Nat.le_refl 0), (Nat.le_refl 0)⟩ (fun H locs hw => ?_)
        replace hw : zc_W g r10.1 H locs := hw
        refine lv_if_ne (tgt := 55) hx hb zd_X10_score__45 (by decide) (fun c11 => ?_) (fun c11 => ?_)
        · replace hf := zo_f c11 hf
          refine lv_iload_n hx hb zd_X10_score__55 rfl (lv_at hl 3 rfl) ?_
          refine lv_iconst (v := 0) hx hb zd_X10_score__56 (by decide) ?_
          refine zl_aload_n hx hb zd_X10_score__57 rfl (lv_at hl 0 rfl) ?_
          refine lv_iload_n hx hb zd_X10_score__58 rfl (lv_at hl 2 rfl) ?_
          replace hf := zo_b hf; obtain ⟨r12, er12, hf⟩ := hf
          refine zw_callV (n := 1) (ci := 10) (q := zc_cl[10]) (As := [.int (x2)]) (rest := [.int (0), .int (x3)]) S hK hw (zt_X10_placesOn l g r10.1 q x2 _ er12) zm_1428 zm_1430 zm_54 zq_X10_placesOn zm_79 (by decide +kernel) ⟨Nat.le_of_ble_eq_true rfl, Nat.le_of_ble_eq_true rfl⟩ rfl rfl rfl (zi_X10_placesOn er12) hl.1 rfl (by simp [zv_cat, zv_ci, zv_cj]) zd_X10_score__59 ⟨(Nat.le_refl 0), (Nat.le_refl 0)⟩ (fun H locs hw => ?_)
          replace hw : zc_W g r10.1 H locs := hw
          refine lv_iconst (v := 1) hx hb zd_X10_score__62 (by decide) ?_
          refine lv_isub hx hb zd_X10_score__63 ?_
          replace hf := zo_b hf; obtain ⟨r13, er13, hf⟩ := hf
          refine zw_callS (n := 3) (As := [.int (x3), .int (0), .int ((r12 - 1))]) (rest := []) S hK hw (zt_X10_within l g r10.1 x3 0 (r12 - 1) _ er13) zm_1216 zm_1217 zq_X10_within zm_79 (by decide +kernel) ⟨Nat.le_of_ble_eq_true rfl, Nat.le_of_ble_eq_true rfl⟩ rfl hl.1 rfl (by simp [zv_cat, zv_ci, zv_cj]) zd_X10_score__64 ⟨(Nat.le_refl 0), (Nat.le_refl 0)⟩ (fun H locs hw => ?_)
          replace hw : zc_W g r10.1 H locs := hw
          refine lv_if_eq (tgt := 79) hx hb zd_X10_score__67 (by decide) (fun c14 => ?_) (fun c14 => ?_)
          · replace hf := zo_t c14 hf
            refine zl_aload_n hx hb zd_X10_score__79 rfl (lv_at hl 0 rfl) ?_
            refine lv_bipush (v := (-5)) hx hb zd_X10_score__80 (by decide) ?_
            replace hf := zo_b hf; obtain ⟨r15, er15, hf⟩ := hf
            refine zw_callV (n := 1) (ci := 10) (q := zc_cl[10]) (As := [.int ((-5))]) (rest := []) S hK hw (zt_X10_no l g r10.1 q (-5) _ er15) zm_1219 zm_1221 zm_24 zq_X10_no zm_79 (by decide +kernel) ⟨Nat.le_of_ble_eq_true rfl, Nat.le_of_ble_eq_true rfl⟩ rfl rfl rfl (zi_X10_no er15) hl.1 rfl (by simp [zv_cat, zv_ci, zv_cj]) zd_X10_score__82 ⟨(Nat.le_refl 0), (Nat.le_refl 0)⟩ (fun H locs hw => ?_)
            replace hw : zc_W g r15.1 H locs := hw
            have hres := Option.some.inj hf; subst hres
            exact zw_iret (v := r15.2) (ty := .int) hx hb hr hlk rfl hw zd_X10_score__85 (Nat.le_refl 0) (Nat.le_refl 0)
          · replace hf := zo_f c14 hf
            refine zl_aload_n hx hb zd_X10_score__70 rfl (lv_at hl 0 rfl) ?_
            refine lv_iload_n hx hb zd_X10_score__71 rfl (lv_at hl 2 rfl) ?_
            refine lv_iload_n hx hb zd_X10_score__72 rfl (lv_at hl 3 rfl) ?_
            replace hf := zo_b hf; obtain ⟨r16, er16, hf⟩ := hf
            refine zw_callV (n := 2) (ci := 10) (q := zc_cl[10]) (As := [.int (x2), .int (x3)]) (rest := []) S hK hw (zt_X10_score l g r10.1 q x2 x3 _ er16) zm_1432 zm_1434 zm_55 zq_X10_score zm_79 (by decide +kernel) ⟨Nat.le_of_ble_eq_true rfl, Nat.le_of_ble_eq_true rfl⟩ rfl rfl rfl (zi_X10_score er16) hl.1 rfl (by simp [zv_cat, zv_ci, zv_cj]) zd_X10_score__73 ⟨(Nat.le_refl 0), (Nat.le_refl 0)⟩ (fun H locs hw => ?_)
            replace hw : zc_W g r10.1 H locs := hw
            refine lv_goto (tgt := 85) hx hb zd_X10_score__76 (by decide) ?_
            have hres := Option.some.inj hf; subst hres
            exact zw_iret (v := r16) (ty := .int) hx hb hr hlk rfl hw zd_X10_score__85 (Nat.le_refl 0) (Nat.le_refl 0)
        · replace hf := zo_t c11 hf
          exact k48h r10.1 _ _ _ hf hw (lv_sub hl [0] rfl)
    · replace hf := zo_t c5 hf
      exact k16h () _ _ _ hf hw (lv_sub hl [0] rfl)
def zf_X10_leastNeed (h : zc_H) (q : Nat) (x1 : Int32) (x2 : Int32) : Option (zc_H × Int32) :=
  if ¬ zf_is h q 10 = true then none else
  (zf_X10_isRemark h q x1).bind fun r1 =>
  let k16 := fun (_ : Unit) =>
    (zf_X10_no10 h q (-1)).bind fun r3 =>
    some (r3.1, r3.2)
  if r1 = 0 then
    k16 ()
  else
  (zf_X10_isRevision h q x2).bind fun r4 =>
  if r4 = 0 then
    k16 ()
  else
  (zf_X10_of h q 2 x1).bind fun r6 =>
  let k48 := fun (h48j : zc_H) =>
    (zf_X10_no10 h48j q (-6)).bind fun r8 =>
    some (r8.1, r8.2)
  if x2 = r6 then
    k48 h
  else
  (zf_X10_of h q 0 x1).bind fun r9 =>
  (zf_X10_puts h q x1 r9 x2 1).bind fun r10 =>
  if r10.2 = 0 then
    k48 r10.1
  else
  (zf_X10_looks r10.1 q x2).bind fun r12 =>
  (zf_gi r12 q 10 40).bind fun v13 =>
  if v13 = 0 then
    some (r12, (-1))
  else
  (zf_gi r12 q 10 39).bind fun v16 =>
  some (r12, v16)
abbrev zr_X10_leastNeed : Room := { frames := 5, cells := 0, slots := 0, locals := 140 }
theorem zi_X10_leastNeed {h : zc_H} {q : Nat} {x1 : Int32} {x2 : Int32} {res : zc_H × Int32} (hf : zf_X10_leastNeed h q x1 x2 = some res) : zf_is h q 10 = true := Decidable.not_not.mp (zo_n hf).1
set_option maxHeartbeats 4000000 in
set_option maxRecDepth 20000 in
theorem zt_X10_leastNeed (l : Launch) (g : zc_G) (h : zc_H) (q : Nat) (x1 : Int32) (x2 : Int32) (res : zc_H × Int32) (hf : zf_X10_leastNeed h q x1 x2 = some res) : zc_M l g yX10_leastNeed cX10_leastNeed 3 (some .int) zr_X10_leastNeed h [va_rf ((some q)), .int (x1), .int (x2)] res.1 (some (.int (res.2))) := by
  refine zc_M.of (by decide) (by simp [lg_sl, zv_cat, zv_ci, zv_cj]) ?_
  intro p e s m below meth c ls S hK hw hr hlk hnm hl
  replace S : CallFix p m c cX10_leastNeed 3 s [va_rf ((some q)), .int (x1), .int (x2)].toArray (zc_ws yX10_leastNeed cX10_leastNeed 3 (some .int)) RX10 := S
  have hx := S.1
  have hb := S.2.1
  replace hl : lv_has ls 3 [(0, va_rf ((some q))), (1, .int (x1)), (2, .int (x2))] := by simpa [lv_args, zv_cat, zv_ci, zv_cj] using hl
  generalize s.heap = H at hw ⊢
  obtain ⟨locs, hlocs⟩ : ∃ L : List Loc, L = [] := ⟨_, rfl⟩
  rw [← hlocs] at hw ⊢
  unfold zf_X10_leastNeed at hf
  obtain ⟨-, hf⟩ := zo_n hf
  refine zl_aload_n hx hb zd_X10_leastNeed_0 rfl (lv_at hl 0 rfl) ?_
  refine lv_iload_n hx hb zd_X10_leastNeed_1 rfl (lv_at hl 1 rfl) ?_
  replace hf := zo_b hf; obtain ⟨r1, er1, hf⟩ := hf
  refine zw_callV (n := 1) (ci := 10) (q := zc_cl[10]) (As := [.int (x1)]) (rest := []) S hK hw (zt_X10_isRemark l g h q x1 _ er1) zm_1247 zm_1249 zm_27 zq_X10_isRemark zm_79 (by decide +kernel) ⟨Nat.le_of_ble_eq_true rfl, Nat.le_of_ble_eq_true rfl⟩ rfl rfl rfl (zi_X10_isRemark er1) hl.1 rfl (by simp [zv_cat, zv_ci, zv_cj]) zd_X10_leastNeed_2 ⟨(Nat.le_refl 0), (Nat.le_refl 0)⟩ (fun H locs hw => ?_)
  replace hw : zc_W g h H locs := hw
  have k16h : ∀ (_ : Unit) (H : Heap) (locs : List Loc) (ls : Array Slot), (
      (zf_X10_no10 h q (-1)).bind fun r3 =>
      some (r3.1, r3.2)
      ) = some res → zc_W g h H locs → lv_has ls 3 [(0, va_rf ((some q)))] → W p l e zr_X10_leastNeed s m [va_rf ((some q)), .int (x1), .int (x2)].toArray below meth c H locs (0 + 0) (0 + 0) (zc_Q g below zr_X10_leastNeed (some (.int (res.2))) res.1 [va_rf ((some q)), .int (x1), .int (x2)] s) (F0 m 16 ls []) := by
    intro _ H locs ls hf hw hl
    refine zl_aload_n hx hb zd_X10_leastNeed_16 rfl (lv_at hl 0 rfl) ?_
    refine lv_iconst (v := (-1)) hx hb zd_X10_leastNeed_17 (by decide) ?_
    replace hf := zo_b hf; obtain ⟨r3, er3, hf⟩ := hf
    refine zw_callV (n := 1) (ci := 10) (q := zc_cl[10]) (As := [.int ((-1))]) (rest := []) S hK hw (zt_X10_no10 l g h q (-1) _ er3) zm_1335 zm_1337 zm_40 zq_X10_no10 zm_79 (by decide +kernel) ⟨Nat.le_of_ble_eq_true rfl, Nat.le_of_ble_eq_true rfl⟩ rfl rfl rfl (zi_X10_no10 er3) hl.1 rfl (by simp [zv_cat, zv_ci, zv_cj]) zd_X10_leastNeed_18 ⟨(Nat.le_refl 0), (Nat.le_refl 0)⟩ (fun H locs hw => ?_)
    replace hw : zc_W g r3.1 H locs := hw
    have hres := Option.some.inj hf; subst hres
    exact zw_iret (v := r3.2) (ty := .int) hx hb hr hlk rfl hw zd_X10_leastNeed_21 (Nat.le_refl 0) (Nat.le_refl 0)
  refine lv_if_eq (tgt := 16) hx hb zd_X10_leastNeed_5 (by decide) (fun c2 => ?_) (fun c2 => ?_)
  · replace hf := zo_t c2 hf
    exact k16h () _ _ _ hf hw (lv_sub hl [0] rfl)
  · replace hf := zo_f c2 hf
    refine zl_aload_n hx hb zd_X10_leastNeed_8 rfl (lv_at hl 0 rfl) ?_
    refine lv_iload_n hx hb zd_X10_leastNeed_9 rfl (lv_at hl 2 rfl) ?_
    replace hf := zo_b hf; obtain ⟨r4, er4, hf⟩ := hf
    refine zw_callV (n := 1) (ci := 10) (q := zc_cl[10]) (As := [.int (x2)]) (rest := []) S hK hw (zt_X10_isRevision l g h q x2 _ er4) zm_1273 zm_1275 zm_29 zq_X10_isRevision zm_79 (by decide +kernel) ⟨Nat.le_of_ble_eq_true rfl, Nat.le_of_ble_eq_true rfl⟩ rfl rfl rfl (zi_X10_isRevision er4) hl.1 rfl (by simp [zv_cat, zv_ci, zv_cj]) zd_X10_leastNeed_10 ⟨(Nat.le_refl 0), (Nat.le_refl 0)⟩ (fun H locs hw => ?_)
    replace hw : zc_W g h H locs := hw
    refine lv_if_ne (tgt := 22) hx hb zd_X10_leastNeed_13 (by decide) (fun c5 => ?_) (fun c5 => ?_)
    · replace hf := zo_f c5 hf
      refine lv_iload_n hx hb zd_X10_leastNeed_22 rfl (lv_at hl 2 rfl) ?_
      refine zl_aload_n hx hb zd_X10_leastNeed_23 rfl (lv_at hl 0 rfl) ?_
      refine lv_iconst (v := 2) hx hb zd_X10_leastNeed_24 (by decide) ?_
      refine lv_iload_n hx hb zd_X10_leastNeed_25 rfl (lv_at hl 1 rfl) ?_
      replace hf := zo_b hf; obtain ⟨r6, er6, hf⟩ := hf
      refine zw_callV (n := 2) (ci := 10) (q := zc_cl[10]) (As := [.int (2), .int (x1)]) (rest := [.int (x2)]) S hK hw (zt_X10_of l g h q 2 x1 _ er6) zm_1259 zm_1261 zm_28 zq_X10_of zm_79 (by decide +kernel) ⟨Nat.le_of_ble_eq_true rfl, Nat.le_of_ble_eq_true rfl⟩ rfl rfl rfl (zi_X10_of er6) hl.1 rfl (by simp [zv_cat, zv_ci, zv_cj]) zd_X10_leastNeed_26 ⟨(Nat.le_refl 0), (Nat.le_refl 0)⟩ (fun H locs hw => ?_)
      replace hw : zc_W g h H locs := hw
      have k48h : ∀ (h48j : zc_H) (H : Heap) (locs : List Loc) (ls : Array Slot), (
          (zf_X10_no10 h48j q (-6)).bind fun r8 =>
          some (r8.1, r8.2)
          ) = some res → zc_W g h48j H locs → lv_has ls 3 [(0, va_rf ((some q)))] → W p l e zr_X10_leastNeed s m [va_rf ((some q)), .int (x1), .int (x2)].toArray below meth c H locs (((0 + 0) + 0) + 0) (((0 + 0) + 0) + 0) (zc_Q g below zr_X10_leastNeed (some (.int (res.2))) res.1 [va_rf ((some q)), .int (x1), .int (x2)] s) (F0 m 48 ls []) := by
        intro h48j H locs ls hf hw hl
        refine zl_aload_n hx hb zd_X10_leastNeed_48 rfl (lv_at hl 0 rfl) ?_
        refine lv_bipush (v := (-6)) hx hb zd_X10_leastNeed_49 (by decide) ?_
        replace hf := zo_b hf; obtain ⟨r8, er8, hf⟩ := hf
        refine zw_callV (n := 1) (ci := 10) (q := zc_cl[10]) (As := [.int ((-6))]) (rest := []) S hK hw (zt_X10_no10 l g h48j q (-6) _ er8) zm_1335 zm_1337 zm_40 zq_X10_no10 zm_79 (by decide +kernel) ⟨Nat.le_of_ble_eq_true rfl, Nat.le_of_ble_eq_true rfl⟩ rfl rfl rfl (zi_X10_no10 er8) hl.1 rfl (by simp [zv_cat, zv_ci, zv_cj]) zd_X10_leastNeed_51 ⟨(Nat.le_refl 0), (Nat.le_refl 0)⟩ (fun H locs hw => ?_)
        replace hw : zc_W g r8.1 H locs := hw
        have hres := Option.some.inj hf; subst hres
        exact zw_iret (v := r8.2) (ty := .int) hx hb hr hlk rfl hw zd_X10_leastNeed_54 (Nat.le_refl 0) (Nat.le_refl 0)
      refine lv_icmp_eq (tgt := 48) hx hb zd_X10_leastNeed_29 (by decide) (fun c7 => ?_) (fun c7 => ?_)
      · replace hf := zo_t c7 hf
        exact k48h h _ _ _ hf hw (lv_sub hl [0] rfl)
      · replace hf := zo_f c7 hf
        refine zl_aload_n hx hb zd_X10_leastNeed_32 rfl (lv_at hl 0 rfl) ?_
        refine lv_iload_n hx hb zd_X10_leastNeed_33 rfl (lv_at hl 1 rfl) ?_
        refine zl_aload_n hx hb zd_X10_leastNeed_34 rfl (lv_at hl 0 rfl) ?_
        refine lv_iconst (v := 0) hx hb zd_X10_leastNeed_35 (by decide) ?_
        refine lv_iload_n hx hb zd_X10_leastNeed_36 rfl (lv_at hl 1 rfl) ?_
        replace hf := zo_b hf; obtain ⟨r9, er9, hf⟩ := hf
        refine zw_callV (n := 2) (ci := 10) (q := zc_cl[10]) (As := [.int (0), .int (x1)]) (rest := [.int (x1), va_rf ((some q))]) S hK hw (zt_X10_of l g h q 0 x1 _ er9) zm_1259 zm_1261 zm_28 zq_X10_of zm_79 (by decide +kernel) ⟨Nat.le_of_ble_eq_true rfl, Nat.le_of_ble_eq_true rfl⟩ rfl rfl rfl (zi_X10_of er9) hl.1 rfl (by simp [zv_cat, zv_ci, zv_cj]) zd_X10_leastNeed_37 ⟨(Nat.le_refl 0), (Nat.le_refl 0)⟩ (fun H locs hw => ?_)
        replace hw : zc_W g h H locs := hw
        refine lv_iload_n hx hb zd_X10_leastNeed_40 rfl (lv_at hl 2 rfl) ?_
        refine lv_iconst (v := 1) hx hb zd_X10_leastNeed_41 (by decide) ?_
        replace hf := zo_b hf; obtain ⟨r10, er10, hf⟩ := hf
        refine zw_callV (n := 4) (ci := 10) (q := zc_cl[10]) (As := [.int (x1), .int (r9), .int (x2), .int (1)]) (rest := []) S hK hw (zt_X10_puts l g h q x1 r9 x2 1 _ er10) zm_1403 zm_1405 zm_48 zq_X10_puts zm_79 (by decide +kernel) ⟨Nat.le_of_ble_eq_true rfl, Nat.le_of_ble_eq_true rfl⟩ rfl rfl rfl (zi_X10_puts er10) hl.1 rfl (by simp [zv_cat, zv_ci, zv_cj]) zd_X10_leastNeed_42 ⟨(Nat.le_refl 0), (Nat.le_refl 0)⟩ (fun H locs hw => ?_)
        replace hw : zc_W g r10.1 H locs := hw
        refine lv_if_ne (tgt := 55) hx hb zd_X10_leastNeed_45 (by decide) (fun c11 => ?_) (fun c11 => ?_)
        · replace hf := zo_f c11 hf
          refine zl_aload_n hx hb zd_X10_leastNeed_55 rfl (lv_at hl 0 rfl) ?_
          refine lv_iload_n hx hb zd_X10_leastNeed_56 rfl (lv_at hl 2 rfl) ?_
          replace hf := zo_b hf; obtain ⟨r12, er12, hf⟩ := hf
          refine zw_callV (n := 1) (ci := 10) (q := zc_cl[10]) (As := [.int (x2)]) (rest := []) S hK hw (zt_X10_looks l g r10.1 q x2 _ er12) zm_1424 zm_1426 zm_53 zq_X10_looks zm_79 (by decide +kernel) ⟨Nat.le_of_ble_eq_true rfl, Nat.le_of_ble_eq_true rfl⟩ rfl rfl rfl (zi_X10_looks er12) hl.1 rfl (by simp [zv_cat, zv_ci, zv_cj]) zd_X10_leastNeed_57 ⟨(Nat.le_refl 0), (Nat.le_refl 0)⟩ (fun H locs hw => ?_)
          replace hw : zc_W g r12 H locs := hw
          refine zl_aload_n hx hb zd_X10_leastNeed_60 rfl (lv_at hl 0 rfl) ?_
          replace hf := zo_b hf; obtain ⟨v13, ev13, hf⟩ := hf
          obtain ⟨u14, u14e, u14v⟩ := zo_b ev13
          obtain rfl := zv_i_e u14v
          refine zw_get S hK hw zk_10 (k := 40) (by decide) rfl zm_1128 (Or.inl rfl) u14e zd_X10_leastNeed_61 ?_
          refine lv_if_eq (tgt := 74) hx hb zd_X10_leastNeed_64 (by decide) (fun c15 => ?_) (fun c15 => ?_)
          · replace hf := zo_t c15 hf
            refine lv_iconst (v := (-1)) hx hb zd_X10_leastNeed_74 (by decide) ?_
            have hres := Option.some.inj hf; subst hres
            exact zw_iret (v := (-1)) (ty := .int) hx hb hr hlk rfl hw zd_X10_leastNeed_75 (Nat.le_refl 0) (Nat.le_refl 0)
          · replace hf := zo_f c15 hf
            refine zl_aload_n hx hb zd_X10_leastNeed_67 rfl (lv_at hl 0 rfl) ?_
            replace hf := zo_b hf; obtain ⟨v16, ev16, hf⟩ := hf
            obtain ⟨u17, u17e, u17v⟩ := zo_b ev16
            obtain rfl := zv_i_e u17v
            refine zw_get S hK hw zk_10 (k := 39) (by decide) rfl zm_1127 (Or.inl rfl) u17e zd_X10_leastNeed_68 ?_
            refine lv_goto (tgt := 75) hx hb zd_X10_leastNeed_71 (by decide) ?_
            have hres := Option.some.inj hf; subst hres
            exact zw_iret (v := v16) (ty := .int) hx hb hr hlk rfl hw zd_X10_leastNeed_75 (Nat.le_refl 0) (Nat.le_refl 0)
        · replace hf := zo_t c11 hf
          exact k48h r10.1 _ _ _ hf hw (lv_sub hl [0] rfl)
    · replace hf := zo_t c5 hf
      exact k16h () _ _ _ hf hw (lv_sub hl [0] rfl)
def zf_X10_fitting_L49 (q : Nat) (y1 : Int32) (y2 : Int32) : Nat → zc_H → Int32 → Int32 → Option (zc_H × Int32)
  | 0, _, _, _ => none
  | n + 1, h, y3, y4 =>
    if 7 ≤ y4 then
      some (h, y3)
    else
    (zf_X10_puts h q y1 y4 y2 0).bind fun r10 =>
    (zf_gi r10.1 q 10 33).bind fun v11 =>
    let k81 := fun (y81_3 : Int32) =>
      zf_X10_fitting_L49 q y1 y2 n r10.1 y81_3 (y4 + 1)
    if v11 = 3 then
      k81 y3
    else
    k81 (y3 ||| (1 <<< (y4 &&& 31)))
def zf_X10_fitting (h : zc_H) (q : Nat) (x1 : Int32) (x2 : Int32) : Option (zc_H × Int32) :=
  if ¬ zf_is h q 10 = true then none else
  (zf_X10_isRemark h q x1).bind fun r1 =>
  let k16 := fun (_ : Unit) =>
    (zf_X10_no h q (-1)).bind fun r3 =>
    some (r3.1, r3.2)
  if r1 = 0 then
    k16 ()
  else
  (zf_X10_isRevision h q x2).bind fun r4 =>
  if r4 = 0 then
    k16 ()
  else
  (zf_X10_of h q 2 x1).bind fun r6 =>
  (zf_X10_behind h q x2 r6).bind fun r7 =>
  if r7.2 = (-1) then
    (zf_X10_no r7.1 q (-6)).bind fun r15 =>
    some (r15.1, r15.2)
  else
  (zf_X10_fitting_L49 q x1 x2 2000 r7.1 0 0).bind fun w14 =>
  some (w14.1, w14.2)
abbrev zr_X10_fitting : Room := { frames := 5, cells := 0, slots := 0, locals := 140 }
theorem zi_X10_fitting {h : zc_H} {q : Nat} {x1 : Int32} {x2 : Int32} {res : zc_H × Int32} (hf : zf_X10_fitting h q x1 x2 = some res) : zf_is h q 10 = true := Decidable.not_not.mp (zo_n hf).1
set_option maxHeartbeats 4000000 in
set_option maxRecDepth 20000 in
theorem zt_X10_fitting (l : Launch) (g : zc_G) (h : zc_H) (q : Nat) (x1 : Int32) (x2 : Int32) (res : zc_H × Int32) (hf : zf_X10_fitting h q x1 x2 = some res) : zc_M l g yX10_fitting cX10_fitting 5 (some .int) zr_X10_fitting h [va_rf ((some q)), .int (x1), .int (x2)] res.1 (some (.int (res.2))) := by
  refine zc_M.of (by decide) (by simp [lg_sl, zv_cat, zv_ci, zv_cj]) ?_
  intro p e s m below meth c ls S hK hw hr hlk hnm hl
  replace S : CallFix p m c cX10_fitting 5 s [va_rf ((some q)), .int (x1), .int (x2)].toArray (zc_ws yX10_fitting cX10_fitting 5 (some .int)) RX10 := S
  have hx := S.1
  have hb := S.2.1
  replace hl : lv_has ls 5 [(0, va_rf ((some q))), (1, .int (x1)), (2, .int (x2))] := by simpa [lv_args, zv_cat, zv_ci, zv_cj] using hl
  generalize s.heap = H at hw ⊢
  obtain ⟨locs, hlocs⟩ : ∃ L : List Loc, L = [] := ⟨_, rfl⟩
  rw [← hlocs] at hw ⊢
  have L49 : ∀ (y1 : Int32) (y2 : Int32) (n : Nat) (h : zc_H) (y3 : Int32) (y4 : Int32) (w : zc_H × Int32) (H : Heap) (locs : List Loc) (ls : Array Slot), zf_X10_fitting_L49 q y1 y2 n h y3 y4 = some w → zc_W g h H locs → lv_has ls 5 [(0, va_rf ((some q))), (1, .int (y1)), (2, .int (y2)), (3, .int (y3)), (4, .int (y4))] → (∀ (H : Heap) (locs : List Loc) (ls : Array Slot), zc_W g w.1 H locs → lv_has ls 5 [(3, .int (w.2))] → W p l e zr_X10_fitting s m [va_rf ((some q)), .int (x1), .int (x2)].toArray below meth c H locs 0 0 (zc_Q g below zr_X10_fitting (some (.int (res.2))) res.1 [va_rf ((some q)), .int (x1), .int (x2)] s) (F0 m 87 ls [])) → W p l e zr_X10_fitting s m [va_rf ((some q)), .int (x1), .int (x2)].toArray below meth c H locs 0 0 (zc_Q g below zr_X10_fitting (some (.int (res.2))) res.1 [va_rf ((some q)), .int (x1), .int (x2)] s) (F0 m 49 ls []) := by
    intro y1 y2 n
    induction n with
    | zero =>
      intro h y3 y4 w H locs ls hf
      cases hf
    | succ n ih =>
      intro h y3 y4 w H locs ls hf hw hl  kk
      unfold zf_X10_fitting_L49 at hf
      refine lv_iload hx hb zd_X10_fitting_49 (lv_at hl 4 rfl) ?_
      refine lv_bipush (v := 7) hx hb zd_X10_fitting_51 (by decide) ?_
      refine lv_icmp_ge (tgt := 87) hx hb zd_X10_fitting_53 (by decide) (fun c9 => ?_) (fun c9 => ?_)
      · replace hf := zo_t c9 hf
        have hres := Option.some.inj hf; subst hres
        exact kk _ _ _ hw (lv_sub hl [3] rfl)
      · replace hf := zo_f c9 hf
        refine zl_aload_n hx hb zd_X10_fitting_56 rfl (lv_at hl 0 rfl) ?_
        refine lv_iload_n hx hb zd_X10_fitting_57 rfl (lv_at hl 1 rfl) ?_
        refine lv_iload hx hb zd_X10_fitting_58 (lv_at hl 4 rfl) ?_
        refine lv_iload_n hx hb zd_X10_fitting_60 rfl (lv_at hl 2 rfl) ?_
        refine lv_iconst (v := 0) hx hb zd_X10_fitting_61 (by decide) ?_
        replace hf := zo_b hf; obtain ⟨r10, er10, hf⟩ := hf
        refine zw_callV (n := 4) (ci := 10) (q := zc_cl[10]) (As := [.int (y1), .int (y4), .int (y2), .int (0)]) (rest := []) S hK hw (zt_X10_puts l g h q y1 y4 y2 0 _ er10) zm_1403 zm_1405 zm_48 zq_X10_puts zm_79 (by decide +kernel) ⟨Nat.le_of_ble_eq_true rfl, Nat.le_of_ble_eq_true rfl⟩ rfl rfl rfl (zi_X10_puts er10) hl.1 rfl (by simp [zv_cat, zv_ci, zv_cj]) zd_X10_fitting_62 ⟨(Nat.le_refl 0), (Nat.le_refl 0)⟩ (fun H locs hw => ?_)
        replace hw : zc_W g r10.1 H locs := hw
        refine lv_pop hx hb zd_X10_fitting_65 rfl ?_
        refine zl_aload_n hx hb zd_X10_fitting_66 rfl (lv_at hl 0 rfl) ?_
        replace hf := zo_b hf; obtain ⟨v11, ev11, hf⟩ := hf
        obtain ⟨u12, u12e, u12v⟩ := zo_b ev11
        obtain rfl := zv_i_e u12v
        refine zw_get S hK hw zk_10 (k := 33) (by decide) rfl zm_1121 (Or.inl rfl) u12e zd_X10_fitting_67 ?_
        refine lv_iconst (v := 3) hx hb zd_X10_fitting_70 (by decide) ?_
        have k81h : ∀ (y81_3 : Int32) (H : Heap) (locs : List Loc) (ls : Array Slot), (
            zf_X10_fitting_L49 q y1 y2 n r10.1 y81_3 (y4 + 1)
            ) = some w → zc_W g r10.1 H locs → lv_has ls 5 [(0, va_rf ((some q))), (1, .int (y1)), (2, .int (y2)), (3, .int (y81_3)), (4, .int (y4))] → W p l e zr_X10_fitting s m [va_rf ((some q)), .int (x1), .int (x2)].toArray below meth c H locs (0 + 0) (0 + 0) (zc_Q g below zr_X10_fitting (some (.int (res.2))) res.1 [va_rf ((some q)), .int (x1), .int (x2)] s) (F0 m 81 ls []) := by
          intro y81_3 H locs ls hf hw hl
          refine lv_iinc (i := 4) (v := (y4 + 1)) (lv' := [(4, .int ((y4 + 1))), (0, va_rf ((some q))), (1, .int (y1)), (2, .int (y2)), (3, .int (y81_3))]) hx hb zd_X10_fitting_81 hl (k := 4) rfl (congrArg (_ + ·) (by decide)) (by decide) rfl (fun ls hl => ?_)
          refine lv_goto (tgt := 49) hx hb zd_X10_fitting_84 (by decide) ?_
          exact ih r10.1 y81_3 (y4 + 1) _ _ _ _ hf hw (lv_sub hl [1, 2, 3, 4, 0] rfl) kk
        refine lv_icmp_eq (tgt := 81) hx hb zd_X10_fitting_71 (by decide) (fun c13 => ?_) (fun c13 => ?_)
        · replace hf := zo_t c13 hf
          exact k81h y3 _ _ _ hf hw (lv_sub hl [0, 1, 2, 3, 4] rfl)
        · replace hf := zo_f c13 hf
          refine lv_iload_n hx hb zd_X10_fitting_74 rfl (lv_at hl 3 rfl) ?_
          refine lv_iconst (v := 1) hx hb zd_X10_fitting_75 (by decide) ?_
          refine lv_iload hx hb zd_X10_fitting_76 (lv_at hl 4 rfl) ?_
          refine lv_ishl hx hb zd_X10_fitting_78 ?_
          refine lv_ior hx hb zd_X10_fitting_79 ?_
          refine lv_istore_n (i := 3) (lv' := [(3, .int ((y3 ||| (1 <<< (y4 &&& 31))))), (0, va_rf ((some q))), (1, .int (y1)), (2, .int (y2)), (4, .int (y4))]) hx hb zd_X10_fitting_80 rfl hl (by decide) rfl (fun ls hl => ?_)
          exact k81h (y3 ||| (1 <<< (y4 &&& 31))) _ _ _ hf hw (lv_sub hl [1, 2, 3, 0, 4] rfl)
  unfold zf_X10_fitting at hf
  obtain ⟨-, hf⟩ := zo_n hf
  refine zl_aload_n hx hb zd_X10_fitting_0 rfl (lv_at hl 0 rfl) ?_
  refine lv_iload_n hx hb zd_X10_fitting_1 rfl (lv_at hl 1 rfl) ?_
  replace hf := zo_b hf; obtain ⟨r1, er1, hf⟩ := hf
  refine zw_callV (n := 1) (ci := 10) (q := zc_cl[10]) (As := [.int (x1)]) (rest := []) S hK hw (zt_X10_isRemark l g h q x1 _ er1) zm_1247 zm_1249 zm_27 zq_X10_isRemark zm_79 (by decide +kernel) ⟨Nat.le_of_ble_eq_true rfl, Nat.le_of_ble_eq_true rfl⟩ rfl rfl rfl (zi_X10_isRemark er1) hl.1 rfl (by simp [zv_cat, zv_ci, zv_cj]) zd_X10_fitting_2 ⟨(Nat.le_refl 0), (Nat.le_refl 0)⟩ (fun H locs hw => ?_)
  replace hw : zc_W g h H locs := hw
  have k16h : ∀ (_ : Unit) (H : Heap) (locs : List Loc) (ls : Array Slot), (
      (zf_X10_no h q (-1)).bind fun r3 =>
      some (r3.1, r3.2)
      ) = some res → zc_W g h H locs → lv_has ls 5 [(0, va_rf ((some q)))] → W p l e zr_X10_fitting s m [va_rf ((some q)), .int (x1), .int (x2)].toArray below meth c H locs (0 + 0) (0 + 0) (zc_Q g below zr_X10_fitting (some (.int (res.2))) res.1 [va_rf ((some q)), .int (x1), .int (x2)] s) (F0 m 16 ls []) := by
    intro _ H locs ls hf hw hl
    refine zl_aload_n hx hb zd_X10_fitting_16 rfl (lv_at hl 0 rfl) ?_
    refine lv_iconst (v := (-1)) hx hb zd_X10_fitting_17 (by decide) ?_
    replace hf := zo_b hf; obtain ⟨r3, er3, hf⟩ := hf
    refine zw_callV (n := 1) (ci := 10) (q := zc_cl[10]) (As := [.int ((-1))]) (rest := []) S hK hw (zt_X10_no l g h q (-1) _ er3) zm_1219 zm_1221 zm_24 zq_X10_no zm_79 (by decide +kernel) ⟨Nat.le_of_ble_eq_true rfl, Nat.le_of_ble_eq_true rfl⟩ rfl rfl rfl (zi_X10_no er3) hl.1 rfl (by simp [zv_cat, zv_ci, zv_cj]) zd_X10_fitting_18 ⟨(Nat.le_refl 0), (Nat.le_refl 0)⟩ (fun H locs hw => ?_)
    replace hw : zc_W g r3.1 H locs := hw
    have hres := Option.some.inj hf; subst hres
    exact zw_iret (v := r3.2) (ty := .int) hx hb hr hlk rfl hw zd_X10_fitting_21 (Nat.le_refl 0) (Nat.le_refl 0)
  refine lv_if_eq (tgt := 16) hx hb zd_X10_fitting_5 (by decide) (fun c2 => ?_) (fun c2 => ?_)
  · replace hf := zo_t c2 hf
    exact k16h () _ _ _ hf hw (lv_sub hl [0] rfl)
  · replace hf := zo_f c2 hf
    refine zl_aload_n hx hb zd_X10_fitting_8 rfl (lv_at hl 0 rfl) ?_
    refine lv_iload_n hx hb zd_X10_fitting_9 rfl (lv_at hl 2 rfl) ?_
    replace hf := zo_b hf; obtain ⟨r4, er4, hf⟩ := hf
    refine zw_callV (n := 1) (ci := 10) (q := zc_cl[10]) (As := [.int (x2)]) (rest := []) S hK hw (zt_X10_isRevision l g h q x2 _ er4) zm_1273 zm_1275 zm_29 zq_X10_isRevision zm_79 (by decide +kernel) ⟨Nat.le_of_ble_eq_true rfl, Nat.le_of_ble_eq_true rfl⟩ rfl rfl rfl (zi_X10_isRevision er4) hl.1 rfl (by simp [zv_cat, zv_ci, zv_cj]) zd_X10_fitting_10 ⟨(Nat.le_refl 0), (Nat.le_refl 0)⟩ (fun H locs hw => ?_)
    replace hw : zc_W g h H locs := hw
    refine lv_if_ne (tgt := 22) hx hb zd_X10_fitting_13 (by decide) (fun c5 => ?_) (fun c5 => ?_)
    · replace hf := zo_f c5 hf
      refine zl_aload_n hx hb zd_X10_fitting_22 rfl (lv_at hl 0 rfl) ?_
      refine lv_iload_n hx hb zd_X10_fitting_23 rfl (lv_at hl 2 rfl) ?_
      refine zl_aload_n hx hb zd_X10_fitting_24 rfl (lv_at hl 0 rfl) ?_
      refine lv_iconst (v := 2) hx hb zd_X10_fitting_25 (by decide) ?_
      refine lv_iload_n hx hb zd_X10_fitting_26 rfl (lv_at hl 1 rfl) ?_
      replace hf := zo_b hf; obtain ⟨r6, er6, hf⟩ := hf
      refine zw_callV (n := 2) (ci := 10) (q := zc_cl[10]) (As := [.int (2), .int (x1)]) (rest := [.int (x2), va_rf ((some q))]) S hK hw (zt_X10_of l g h q 2 x1 _ er6) zm_1259 zm_1261 zm_28 zq_X10_of zm_79 (by decide +kernel) ⟨Nat.le_of_ble_eq_true rfl, Nat.le_of_ble_eq_true rfl⟩ rfl rfl rfl (zi_X10_of er6) hl.1 rfl (by simp [zv_cat, zv_ci, zv_cj]) zd_X10_fitting_27 ⟨(Nat.le_refl 0), (Nat.le_refl 0)⟩ (fun H locs hw => ?_)
      replace hw : zc_W g h H locs := hw
      replace hf := zo_b hf; obtain ⟨r7, er7, hf⟩ := hf
      refine zw_callV (n := 2) (ci := 10) (q := zc_cl[10]) (As := [.int (x2), .int (r6)]) (rest := []) S hK hw (zt_X10_behind l g h q x2 r6 _ er7) zm_1355 zm_1357 zm_41 zq_X10_behind zm_79 (by decide +kernel) ⟨Nat.le_of_ble_eq_true rfl, Nat.le_of_ble_eq_true rfl⟩ rfl rfl rfl (zi_X10_behind er7) hl.1 rfl (by simp [zv_cat, zv_ci, zv_cj]) zd_X10_fitting_30 ⟨(Nat.le_refl 0), (Nat.le_refl 0)⟩ (fun H locs hw => ?_)
      replace hw : zc_W g r7.1 H locs := hw
      refine lv_iconst (v := (-1)) hx hb zd_X10_fitting_33 (by decide) ?_
      refine lv_icmp_ne (tgt := 44) hx hb zd_X10_fitting_34 (by decide) (fun c8 => ?_) (fun c8 => ?_)
      · replace hf := zo_f c8 hf
        refine lv_iconst (v := 0) hx hb zd_X10_fitting_44 (by decide) ?_
        refine lv_istore_n (i := 3) (lv' := [(3, .int (0)), (0, va_rf ((some q))), (1, .int (x1)), (2, .int (x2))]) hx hb zd_X10_fitting_45 rfl hl (by decide) rfl (fun ls hl => ?_)
        refine lv_iconst (v := 0) hx hb zd_X10_fitting_46 (by decide) ?_
        refine lv_istore (i := 4) (lv' := [(4, .int (0)), (3, .int (0)), (0, va_rf ((some q))), (1, .int (x1)), (2, .int (x2))]) hx hb zd_X10_fitting_47 hl (by decide) rfl (fun ls hl => ?_)
        replace hf := zo_b hf; obtain ⟨w14, w14e, hf⟩ := hf
        refine L49 x1 x2 2000 r7.1 0 0 _ _ _ _ w14e hw (lv_sub hl [2, 3, 4, 1, 0] rfl) (fun H locs ls hw hl => ?_)
        refine lv_iload_n hx hb zd_X10_fitting_87 rfl (lv_at hl 0 rfl) ?_
        have hres := Option.some.inj hf; subst hres
        exact zw_iret (v := w14.2) (ty := .int) hx hb hr hlk rfl hw zd_X10_fitting_88 (Nat.le_refl 0) (Nat.le_refl 0)
      · replace hf := zo_t c8 hf
        refine zl_aload_n hx hb zd_X10_fitting_37 rfl (lv_at hl 0 rfl) ?_
        refine lv_bipush (v := (-6)) hx hb zd_X10_fitting_38 (by decide) ?_
        replace hf := zo_b hf; obtain ⟨r15, er15, hf⟩ := hf
        refine zw_callV (n := 1) (ci := 10) (q := zc_cl[10]) (As := [.int ((-6))]) (rest := []) S hK hw (zt_X10_no l g r7.1 q (-6) _ er15) zm_1219 zm_1221 zm_24 zq_X10_no zm_79 (by decide +kernel) ⟨Nat.le_of_ble_eq_true rfl, Nat.le_of_ble_eq_true rfl⟩ rfl rfl rfl (zi_X10_no er15) hl.1 rfl (by simp [zv_cat, zv_ci, zv_cj]) zd_X10_fitting_40 ⟨(Nat.le_refl 0), (Nat.le_refl 0)⟩ (fun H locs hw => ?_)
        replace hw : zc_W g r15.1 H locs := hw
        have hres := Option.some.inj hf; subst hres
        exact zw_iret (v := r15.2) (ty := .int) hx hb hr hlk rfl hw zd_X10_fitting_43 (Nat.le_refl 0) (Nat.le_refl 0)
    · replace hf := zo_t c5 hf
      exact k16h () _ _ _ hf hw (lv_sub hl [0] rfl)
def zf_X10_isPut (h : zc_H) (q : Nat) (x1 : Int32) (x2 : Int32) : Option (zc_H × Int32) :=
  if ¬ zf_is h q 10 = true then none else
  (zf_X10_of h q 0 x1).bind fun r1 =>
  (zf_X10_puts h q x1 r1 x2 0).bind fun r2 =>
  if r2.2 = 0 then
    some (r2.1, 0)
  else
  (zf_gi r2.1 q 10 33).bind fun v4 =>
  if v4 = 3 then
    some (r2.1, 0)
  else
  some (r2.1, 1)
abbrev zr_X10_isPut : Room := { frames := 5, cells := 0, slots := 0, locals := 140 }
theorem zi_X10_isPut {h : zc_H} {q : Nat} {x1 : Int32} {x2 : Int32} {res : zc_H × Int32} (hf : zf_X10_isPut h q x1 x2 = some res) : zf_is h q 10 = true := Decidable.not_not.mp (zo_n hf).1
set_option maxHeartbeats 4000000 in
set_option maxRecDepth 20000 in
theorem zt_X10_isPut (l : Launch) (g : zc_G) (h : zc_H) (q : Nat) (x1 : Int32) (x2 : Int32) (res : zc_H × Int32) (hf : zf_X10_isPut h q x1 x2 = some res) : zc_M l g yX10_isPut cX10_isPut 3 (some .boolean) zr_X10_isPut h [va_rf ((some q)), .int (x1), .int (x2)] res.1 (some (.int (res.2))) := by
  refine zc_M.of (by decide) (by simp [lg_sl, zv_cat, zv_ci, zv_cj]) ?_
  intro p e s m below meth c ls S hK hw hr hlk hnm hl
  replace S : CallFix p m c cX10_isPut 3 s [va_rf ((some q)), .int (x1), .int (x2)].toArray (zc_ws yX10_isPut cX10_isPut 3 (some .boolean)) RX10 := S
  have hx := S.1
  have hb := S.2.1
  replace hl : lv_has ls 3 [(0, va_rf ((some q))), (1, .int (x1)), (2, .int (x2))] := by simpa [lv_args, zv_cat, zv_ci, zv_cj] using hl
  generalize s.heap = H at hw ⊢
  obtain ⟨locs, hlocs⟩ : ∃ L : List Loc, L = [] := ⟨_, rfl⟩
  rw [← hlocs] at hw ⊢
  unfold zf_X10_isPut at hf
  obtain ⟨-, hf⟩ := zo_n hf
  refine zl_aload_n hx hb zd_X10_isPut_0 rfl (lv_at hl 0 rfl) ?_
  refine lv_iload_n hx hb zd_X10_isPut_1 rfl (lv_at hl 1 rfl) ?_
  refine zl_aload_n hx hb zd_X10_isPut_2 rfl (lv_at hl 0 rfl) ?_
  refine lv_iconst (v := 0) hx hb zd_X10_isPut_3 (by decide) ?_
  refine lv_iload_n hx hb zd_X10_isPut_4 rfl (lv_at hl 1 rfl) ?_
  replace hf := zo_b hf; obtain ⟨r1, er1, hf⟩ := hf
  refine zw_callV (n := 2) (ci := 10) (q := zc_cl[10]) (As := [.int (0), .int (x1)]) (rest := [.int (x1), va_rf ((some q))]) S hK hw (zt_X10_of l g h q 0 x1 _ er1) zm_1259 zm_1261 zm_28 zq_X10_of zm_79 (by decide +kernel) ⟨Nat.le_of_ble_eq_true rfl, Nat.le_of_ble_eq_true rfl⟩ rfl rfl rfl (zi_X10_of er1) hl.1 rfl (by simp [zv_cat, zv_ci, zv_cj]) zd_X10_isPut_5 ⟨(Nat.le_refl 0), (Nat.le_refl 0)⟩ (fun H locs hw => ?_)
  replace hw : zc_W g h H locs := hw
  refine lv_iload_n hx hb zd_X10_isPut_8 rfl (lv_at hl 2 rfl) ?_
  refine lv_iconst (v := 0) hx hb zd_X10_isPut_9 (by decide) ?_
  replace hf := zo_b hf; obtain ⟨r2, er2, hf⟩ := hf
  refine zw_callV (n := 4) (ci := 10) (q := zc_cl[10]) (As := [.int (x1), .int (r1), .int (x2), .int (0)]) (rest := []) S hK hw (zt_X10_puts l g h q x1 r1 x2 0 _ er2) zm_1403 zm_1405 zm_48 zq_X10_puts zm_79 (by decide +kernel) ⟨Nat.le_of_ble_eq_true rfl, Nat.le_of_ble_eq_true rfl⟩ rfl rfl rfl (zi_X10_puts er2) hl.1 rfl (by simp [zv_cat, zv_ci, zv_cj]) zd_X10_isPut_10 ⟨(Nat.le_refl 0), (Nat.le_refl 0)⟩ (fun H locs hw => ?_)
  replace hw : zc_W g r2.1 H locs := hw
  refine lv_if_eq (tgt := 28) hx hb zd_X10_isPut_13 (by decide) (fun c3 => ?_) (fun c3 => ?_)
  · replace hf := zo_t c3 hf
    refine lv_iconst (v := 0) hx hb zd_X10_isPut_28 (by decide) ?_
    have hres := Option.some.inj hf; subst hres
    exact zw_iret (v := 0) (ty := .boolean) hx hb hr hlk rfl hw zd_X10_isPut_29 (Nat.le_refl 0) (Nat.le_refl 0)
  · replace hf := zo_f c3 hf
    refine zl_aload_n hx hb zd_X10_isPut_16 rfl (lv_at hl 0 rfl) ?_
    replace hf := zo_b hf; obtain ⟨v4, ev4, hf⟩ := hf
    obtain ⟨u5, u5e, u5v⟩ := zo_b ev4
    obtain rfl := zv_i_e u5v
    refine zw_get S hK hw zk_10 (k := 33) (by decide) rfl zm_1121 (Or.inl rfl) u5e zd_X10_isPut_17 ?_
    refine lv_iconst (v := 3) hx hb zd_X10_isPut_20 (by decide) ?_
    refine lv_icmp_eq (tgt := 28) hx hb zd_X10_isPut_21 (by decide) (fun c6 => ?_) (fun c6 => ?_)
    · replace hf := zo_t c6 hf
      refine lv_iconst (v := 0) hx hb zd_X10_isPut_28 (by decide) ?_
      have hres := Option.some.inj hf; subst hres
      exact zw_iret (v := 0) (ty := .boolean) hx hb hr hlk rfl hw zd_X10_isPut_29 (Nat.le_refl 0) (Nat.le_refl 0)
    · replace hf := zo_f c6 hf
      refine lv_iconst (v := 1) hx hb zd_X10_isPut_24 (by decide) ?_
      refine lv_goto (tgt := 29) hx hb zd_X10_isPut_25 (by decide) ?_
      have hres := Option.some.inj hf; subst hres
      exact zw_iret (v := 1) (ty := .boolean) hx hb hr hlk rfl hw zd_X10_isPut_29 (Nat.le_refl 0) (Nat.le_refl 0)
def zf_X10_inOrder_L19 (q : Nat) (y1 : Int32) (y2 : Int32) (y3 : Int32) : Nat → zc_H → Int32 → Option (zc_H)
  | 0, _, _ => none
  | n + 1, h, y4 =>
    (zf_gi h q 10 5).bind fun v3 =>
    if v3 ≤ y4 then
      some h
    else
    (zf_gr h q 10 37).bind fun v6 =>
    (zf_X10_isPut h q y4 y1).bind fun r8 =>
    let k52 := fun (s52_0 : Int32) (s52_1 : Int32) (s52_2 : Option Nat) =>
      s52_2.bind fun a10 =>
      (zf_si r8.1 a10 0 s52_1 s52_0).bind fun h11 =>
      zf_X10_inOrder_L19 q y1 y2 y3 n h11 (y4 + 1)
    if r8.2 = 0 then
      k52 (-1) y4 v6
    else
    (zf_gi r8.1 q 10 31).bind fun v12 =>
    k52 v12 y4 v6
def zf_X10_inOrder_L76 (h : zc_H) (q : Nat) (y2 : Int32) (y4 : Int32) : Nat → Int32 → Int32 → Option ((Int32) ⊕ (Int32))
  | 0, _, _ => none
  | n + 1, y3, y5 =>
    (zf_gi h q 10 5).bind fun v17 =>
    if v17 ≤ y5 then
      some (.inl y3)
    else
    (zf_gr h q 10 37).bind fun v20 =>
    v20.bind fun a22 =>
    (zf_ai h a22 0 y5).bind fun v23 =>
    let k110 := fun (y110_3 : Int32) =>
      zf_X10_inOrder_L76 h q y2 y4 n y110_3 (y5 + 1)
    if v23 = y4 then
      if y3 = 0 then
        some (.inr y5)
      else
      k110 (y3 + (-1))
    else
    k110 y3
def zf_X10_inOrder_L62 (h : zc_H) (q : Nat) (y2 : Int32) : Nat → Int32 → Int32 → Option ((Unit) ⊕ (Int32))
  | 0, _, _ => none
  | n + 1, y3, y4 =>
    if 24 ≤ y4 then
      some (.inl ())
    else
    if y2 < 0 then
      some (.inl ())
    else
    (zf_X10_inOrder_L76 h q y2 y4 2000 y3 0).bind fun w26 =>
    Sum.elim (fun t27 =>
      zf_X10_inOrder_L62 h q y2 n t27 (y4 + 1)
      ) (fun t28 =>
      some (.inr t28)
      ) w26
def zf_X10_inOrder (h : zc_H) (q : Nat) (x1 : Int32) (x2 : Int32) : Option (zc_H × Int32) :=
  if ¬ zf_is h q 10 = true then none else
  (zf_X10_isRevision h q x1).bind fun r1 =>
  if r1 = 0 then
    (zf_X10_no10 h q (-1)).bind fun r32 =>
    some (r32.1, r32.2)
  else
  (zf_X10_inOrder_L19 q x1 x2 x2 2000 h 0).bind fun w14 =>
  (zf_X10_inOrder_L62 w14 q x2 2000 x2 0).bind fun w29 =>
  Sum.elim (fun t30 =>
    some (w14, (-1))
    ) (fun t31 =>
    some (w14, t31)
    ) w29
abbrev zr_X10_inOrder : Room := { frames := 6, cells := 0, slots := 0, locals := 162 }
theorem zi_X10_inOrder {h : zc_H} {q : Nat} {x1 : Int32} {x2 : Int32} {res : zc_H × Int32} (hf : zf_X10_inOrder h q x1 x2 = some res) : zf_is h q 10 = true := Decidable.not_not.mp (zo_n hf).1
set_option maxHeartbeats 4000000 in
set_option maxRecDepth 20000 in
theorem zt_X10_inOrder (l : Launch) (g : zc_G) (h : zc_H) (q : Nat) (x1 : Int32) (x2 : Int32) (res : zc_H × Int32) (hf : zf_X10_inOrder h q x1 x2 = some res) : zc_M l g yX10_inOrder cX10_inOrder 6 (some .int) zr_X10_inOrder h [va_rf ((some q)), .int (x1), .int (x2)] res.1 (some (.int (res.2))) := by
  refine zc_M.of (by decide) (by simp [lg_sl, zv_cat, zv_ci, zv_cj]) ?_
  intro p e s m below meth c ls S hK hw hr hlk hnm hl
  replace S : CallFix p m c cX10_inOrder 6 s [va_rf ((some q)), .int (x1), .int (x2)].toArray (zc_ws yX10_inOrder cX10_inOrder 6 (some .int)) RX10 := S
  have hx := S.1
  have hb := S.2.1
  replace hl : lv_has ls 6 [(0, va_rf ((some q))), (1, .int (x1)), (2, .int (x2))] := by simpa [lv_args, zv_cat, zv_ci, zv_cj] using hl
  generalize s.heap = H at hw ⊢
  obtain ⟨locs, hlocs⟩ : ∃ L : List Loc, L = [] := ⟨_, rfl⟩
  rw [← hlocs] at hw ⊢
  have L19 : ∀ (y1 : Int32) (y2 : Int32) (y3 : Int32) (n : Nat) (h : zc_H) (y4 : Int32) (w : zc_H) (H : Heap) (locs : List Loc) (ls : Array Slot), zf_X10_inOrder_L19 q y1 y2 y3 n h y4 = some w → zc_W g h H locs → lv_has ls 6 [(0, va_rf ((some q))), (1, .int (y1)), (2, .int (y2)), (3, .int (y3)), (4, .int (y4))] → (∀ (H : Heap) (locs : List Loc) (ls : Array Slot), zc_W g w H locs → lv_has ls 6 [(0, va_rf ((some q))), (2, .int (y2)), (3, .int (y3))] → W p l e zr_X10_inOrder s m [va_rf ((some q)), .int (x1), .int (x2)].toArray below meth c H locs 0 0 (zc_Q g below zr_X10_inOrder (some (.int (res.2))) res.1 [va_rf ((some q)), .int (x1), .int (x2)] s) (F0 m 59 ls [])) → W p l e zr_X10_inOrder s m [va_rf ((some q)), .int (x1), .int (x2)].toArray below meth c H locs 0 0 (zc_Q g below zr_X10_inOrder (some (.int (res.2))) res.1 [va_rf ((some q)), .int (x1), .int (x2)] s) (F0 m 19 ls []) := by
    intro y1 y2 y3 n
    induction n with
    | zero =>
      intro h y4 w H locs ls hf
      cases hf
    | succ n ih =>
      intro h y4 w H locs ls hf hw hl  kk
      unfold zf_X10_inOrder_L19 at hf
      refine lv_iload hx hb zd_X10_inOrder_19 (lv_at hl 4 rfl) ?_
      refine zl_aload_n hx hb zd_X10_inOrder_21 rfl (lv_at hl 0 rfl) ?_
      replace hf := zo_b hf; obtain ⟨v3, ev3, hf⟩ := hf
      obtain ⟨u4, u4e, u4v⟩ := zo_b ev3
      obtain rfl := zv_i_e u4v
      refine zw_get S hK hw zk_10 (k := 5) (by decide) rfl zm_1093 (Or.inl rfl) u4e zd_X10_inOrder_22 ?_
      refine lv_icmp_ge (tgt := 59) hx hb zd_X10_inOrder_25 (by decide) (fun c5 => ?_) (fun c5 => ?_)
      · replace hf := zo_t c5 hf
        have hres := Option.some.inj hf; subst hres
        exact kk _ _ _ hw (lv_sub hl [0, 2, 3] rfl)
      · replace hf := zo_f c5 hf
        refine zl_aload_n hx hb zd_X10_inOrder_28 rfl (lv_at hl 0 rfl) ?_
        replace hf := zo_b hf; obtain ⟨v6, ev6, hf⟩ := hf
        obtain ⟨u7, u7e, u7v⟩ := zo_b ev6
        obtain rfl := zv_r_e u7v
        refine zw_get S hK hw zk_10 (k := 37) (by decide) rfl zm_1125 (Or.inl rfl) u7e zd_X10_inOrder_29 ?_
        refine lv_iload hx hb zd_X10_inOrder_32 (lv_at hl 4 rfl) ?_
        refine zl_aload_n hx hb zd_X10_inOrder_34 rfl (lv_at hl 0 rfl) ?_
        refine lv_iload hx hb zd_X10_inOrder_35 (lv_at hl 4 rfl) ?_
        refine lv_iload_n hx hb zd_X10_inOrder_37 rfl (lv_at hl 1 rfl) ?_
        replace hf := zo_b hf; obtain ⟨r8, er8, hf⟩ := hf
        refine zw_callV (n := 2) (ci := 10) (q := zc_cl[10]) (As := [.int (y4), .int (y1)]) (rest := [.int (y4), va_rf (v6)]) S hK hw (zt_X10_isPut l g h q y4 y1 _ er8) zm_1452 zm_1454 zm_56 zq_X10_isPut zm_79 (by decide +kernel) ⟨Nat.le_of_ble_eq_true rfl, Nat.le_of_ble_eq_true rfl⟩ rfl rfl rfl (zi_X10_isPut er8) hl.1 rfl (by simp [zv_cat, zv_ci, zv_cj]) zd_X10_inOrder_38 ⟨(Nat.le_refl 0), (Nat.le_refl 0)⟩ (fun H locs hw => ?_)
        replace hw : zc_W g r8.1 H locs := hw
        have k52h : ∀ (s52_0 : Int32) (s52_1 : Int32) (s52_2 : Option Nat) (H : Heap) (locs : List Loc) (ls : Array Slot), (
            s52_2.bind fun a10 =>
            (zf_si r8.1 a10 0 s52_1 s52_0).bind fun h11 =>
            zf_X10_inOrder_L19 q y1 y2 y3 n h11 (y4 + 1)
            ) = some w → zc_W g r8.1 H locs → lv_has ls 6 [(0, va_rf ((some q))), (1, .int (y1)), (2, .int (y2)), (3, .int (y3)), (4, .int (y4))] → W p l e zr_X10_inOrder s m [va_rf ((some q)), .int (x1), .int (x2)].toArray below meth c H locs (0 + 0) (0 + 0) (zc_Q g below zr_X10_inOrder (some (.int (res.2))) res.1 [va_rf ((some q)), .int (x1), .int (x2)] s) (F0 m 52 ls [.int (s52_0), .int (s52_1), va_rf (s52_2)]) := by
          intro s52_0 s52_1 s52_2 H locs ls hf hw hl
          replace hf := zo_b hf; obtain ⟨a10, na10, hf⟩ := hf
          refine W.eq (g2 := F0 m 52 ls [.int (s52_0), .int (s52_1), va_rf ((some a10))]) (by rw [na10] <;> rfl) ?_
          replace hf := zo_b hf; obtain ⟨h11, eh11, hf⟩ := hf
          refine zw_iast S hK hw eh11 zd_X10_inOrder_52 (fun H locs hw => ?_)
          refine lv_iinc (i := 4) (v := (y4 + 1)) (lv' := [(4, .int ((y4 + 1))), (0, va_rf ((some q))), (1, .int (y1)), (2, .int (y2)), (3, .int (y3))]) hx hb zd_X10_inOrder_53 hl (k := 4) rfl (congrArg (_ + ·) (by decide)) (by decide) rfl (fun ls hl => ?_)
          refine lv_goto (tgt := 19) hx hb zd_X10_inOrder_56 (by decide) ?_
          exact ih h11 (y4 + 1) _ _ _ _ hf hw (lv_sub hl [1, 2, 3, 4, 0] rfl) kk
        refine lv_if_eq (tgt := 51) hx hb zd_X10_inOrder_41 (by decide) (fun c9 => ?_) (fun c9 => ?_)
        · replace hf := zo_t c9 hf
          refine lv_iconst (v := (-1)) hx hb zd_X10_inOrder_51 (by decide) ?_
          exact k52h (-1) y4 v6 _ _ _ hf hw (lv_sub hl [0, 1, 2, 3, 4] rfl)
        · replace hf := zo_f c9 hf
          refine zl_aload_n hx hb zd_X10_inOrder_44 rfl (lv_at hl 0 rfl) ?_
          replace hf := zo_b hf; obtain ⟨v12, ev12, hf⟩ := hf
          obtain ⟨u13, u13e, u13v⟩ := zo_b ev12
          obtain rfl := zv_i_e u13v
          refine zw_get S hK hw zk_10 (k := 31) (by decide) rfl zm_1119 (Or.inl rfl) u13e zd_X10_inOrder_45 ?_
          refine lv_goto (tgt := 52) hx hb zd_X10_inOrder_48 (by decide) ?_
          exact k52h v12 y4 v6 _ _ _ hf hw (lv_sub hl [0, 1, 2, 3, 4] rfl)
  have L76 : ∀ (h : zc_H) (y2 : Int32) (y4 : Int32) (n : Nat) (y3 : Int32) (y5 : Int32) (w : (Int32) ⊕ (Int32)) (H : Heap) (locs : List Loc) (ls : Array Slot), zf_X10_inOrder_L76 h q y2 y4 n y3 y5 = some w → zc_W g h H locs → lv_has ls 6 [(0, va_rf ((some q))), (2, .int (y2)), (3, .int (y3)), (4, .int (y4)), (5, .int (y5))] → (∀ (t : Int32) (H : Heap) (locs : List Loc) (ls : Array Slot), w = (.inl t) → zc_W g h H locs → lv_has ls 6 [(0, va_rf ((some q))), (2, .int (y2)), (3, .int (t)), (4, .int (y4))] → W p l e zr_X10_inOrder s m [va_rf ((some q)), .int (x1), .int (x2)].toArray below meth c H locs 0 0 (zc_Q g below zr_X10_inOrder (some (.int (res.2))) res.1 [va_rf ((some q)), .int (x1), .int (x2)] s) (F0 m 116 ls [])) → (∀ (t : Int32) (H : Heap) (locs : List Loc) (ls : Array Slot), w = (.inr t) → zc_W g h H locs → lv_has ls 6 [(5, .int (t))] → W p l e zr_X10_inOrder s m [va_rf ((some q)), .int (x1), .int (x2)].toArray below meth c H locs 0 0 (zc_Q g below zr_X10_inOrder (some (.int (res.2))) res.1 [va_rf ((some q)), .int (x1), .int (x2)] s) (F0 m 104 ls [])) → W p l e zr_X10_inOrder s m [va_rf ((some q)), .int (x1), .int (x2)].toArray below meth c H locs 0 0 (zc_Q g below zr_X10_inOrder (some (.int (res.2))) res.1 [va_rf ((some q)), .int (x1), .int (x2)] s) (F0 m 76 ls []) := by
    intro h y2 y4 n
    induction n with
    | zero =>
      intro y3 y5 w H locs ls hf
      cases hf
    | succ n ih =>
      intro y3 y5 w H locs ls hf hw hl  kk1 kk2
      unfold zf_X10_inOrder_L76 at hf
      refine lv_iload hx hb zd_X10_inOrder_76 (lv_at hl 4 rfl) ?_
      refine zl_aload_n hx hb zd_X10_inOrder_78 rfl (lv_at hl 0 rfl) ?_
      replace hf := zo_b hf; obtain ⟨v17, ev17, hf⟩ := hf
      obtain ⟨u18, u18e, u18v⟩ := zo_b ev17
      obtain rfl := zv_i_e u18v
      refine zw_get S hK hw zk_10 (k := 5) (by decide) rfl zm_1093 (Or.inl rfl) u18e zd_X10_inOrder_79 ?_
      refine lv_icmp_ge (tgt := 116) hx hb zd_X10_inOrder_82 (by decide) (fun c19 => ?_) (fun c19 => ?_)
      · replace hf := zo_t c19 hf
        have hres := Option.some.inj hf; subst hres
        exact kk1 _ _ _ _ rfl hw (lv_sub hl [0, 1, 2, 3] rfl)
      · replace hf := zo_f c19 hf
        refine zl_aload_n hx hb zd_X10_inOrder_85 rfl (lv_at hl 0 rfl) ?_
        replace hf := zo_b hf; obtain ⟨v20, ev20, hf⟩ := hf
        obtain ⟨u21, u21e, u21v⟩ := zo_b ev20
        obtain rfl := zv_r_e u21v
        refine zw_get S hK hw zk_10 (k := 37) (by decide) rfl zm_1125 (Or.inl rfl) u21e zd_X10_inOrder_86 ?_
        refine lv_iload hx hb zd_X10_inOrder_89 (lv_at hl 4 rfl) ?_
        replace hf := zo_b hf; obtain ⟨a22, na22, hf⟩ := hf
        refine W.eq (g2 := F0 m 91 ls [.int (y5), va_rf ((some a22))]) (by rw [na22] <;> rfl) ?_
        replace hf := zo_b hf; obtain ⟨v23, ev23, hf⟩ := hf
        refine zw_iald S hK hw ev23 zd_X10_inOrder_91 ?_
        refine lv_iload hx hb zd_X10_inOrder_92 (lv_at hl 3 rfl) ?_
        have k110h : ∀ (y110_3 : Int32) (H : Heap) (locs : List Loc) (ls : Array Slot), (
            zf_X10_inOrder_L76 h q y2 y4 n y110_3 (y5 + 1)
            ) = some w → zc_W g h H locs → lv_has ls 6 [(0, va_rf ((some q))), (2, .int (y2)), (3, .int (y110_3)), (4, .int (y4)), (5, .int (y5))] → W p l e zr_X10_inOrder s m [va_rf ((some q)), .int (x1), .int (x2)].toArray below meth c H locs 0 0 (zc_Q g below zr_X10_inOrder (some (.int (res.2))) res.1 [va_rf ((some q)), .int (x1), .int (x2)] s) (F0 m 110 ls []) := by
          intro y110_3 H locs ls hf hw hl
          refine lv_iinc (i := 5) (v := (y5 + 1)) (lv' := [(5, .int ((y5 + 1))), (0, va_rf ((some q))), (2, .int (y2)), (3, .int (y110_3)), (4, .int (y4))]) hx hb zd_X10_inOrder_110 hl (k := 4) rfl (congrArg (_ + ·) (by decide)) (by decide) rfl (fun ls hl => ?_)
          refine lv_goto (tgt := 76) hx hb zd_X10_inOrder_113 (by decide) ?_
          exact ih y110_3 (y5 + 1) _ _ _ _ hf hw (lv_sub hl [1, 2, 3, 4, 0] rfl) kk1 kk2
        refine lv_icmp_eq (tgt := 100) hx hb zd_X10_inOrder_94 (by decide) (fun c24 => ?_) (fun c24 => ?_)
        · replace hf := zo_t c24 hf
          refine lv_iload_n hx hb zd_X10_inOrder_100 rfl (lv_at hl 2 rfl) ?_
          refine lv_if_ne (tgt := 107) hx hb zd_X10_inOrder_101 (by decide) (fun c25 => ?_) (fun c25 => ?_)
          · replace hf := zo_f c25 hf
            refine lv_iinc (i := 3) (v := (y3 + (-1))) (lv' := [(3, .int ((y3 + (-1)))), (0, va_rf ((some q))), (2, .int (y2)), (4, .int (y4)), (5, .int (y5))]) hx hb zd_X10_inOrder_107 hl (k := 2) rfl (congrArg (_ + ·) (by decide)) (by decide) rfl (fun ls hl => ?_)
            exact k110h (y3 + (-1)) _ _ _ hf hw (lv_sub hl [1, 2, 0, 3, 4] rfl)
          · replace hf := zo_t c25 hf
            have hres := Option.some.inj hf; subst hres
            exact kk2 _ _ _ _ rfl hw (lv_sub hl [4] rfl)
        · replace hf := zo_f c24 hf
          refine lv_goto (tgt := 110) hx hb zd_X10_inOrder_97 (by decide) ?_
          exact k110h y3 _ _ _ hf hw (lv_sub hl [0, 1, 2, 3, 4] rfl)
  have L62 : ∀ (h : zc_H) (y2 : Int32) (n : Nat) (y3 : Int32) (y4 : Int32) (w : (Unit) ⊕ (Int32)) (H : Heap) (locs : List Loc) (ls : Array Slot), zf_X10_inOrder_L62 h q y2 n y3 y4 = some w → zc_W g h H locs → lv_has ls 6 [(0, va_rf ((some q))), (2, .int (y2)), (3, .int (y3)), (4, .int (y4))] → (∀ (t : Unit) (H : Heap) (locs : List Loc) (ls : Array Slot), w = (.inl t) → zc_W g h H locs → lv_has ls 6 [] → W p l e zr_X10_inOrder s m [va_rf ((some q)), .int (x1), .int (x2)].toArray below meth c H locs 0 0 (zc_Q g below zr_X10_inOrder (some (.int (res.2))) res.1 [va_rf ((some q)), .int (x1), .int (x2)] s) (F0 m 122 ls [])) → (∀ (t : Int32) (H : Heap) (locs : List Loc) (ls : Array Slot), w = (.inr t) → zc_W g h H locs → lv_has ls 6 [(5, .int (t))] → W p l e zr_X10_inOrder s m [va_rf ((some q)), .int (x1), .int (x2)].toArray below meth c H locs 0 0 (zc_Q g below zr_X10_inOrder (some (.int (res.2))) res.1 [va_rf ((some q)), .int (x1), .int (x2)] s) (F0 m 104 ls [])) → W p l e zr_X10_inOrder s m [va_rf ((some q)), .int (x1), .int (x2)].toArray below meth c H locs 0 0 (zc_Q g below zr_X10_inOrder (some (.int (res.2))) res.1 [va_rf ((some q)), .int (x1), .int (x2)] s) (F0 m 62 ls []) := by
    intro h y2 n
    induction n with
    | zero =>
      intro y3 y4 w H locs ls hf
      cases hf
    | succ n ih =>
      intro y3 y4 w H locs ls hf hw hl  kk1 kk2
      unfold zf_X10_inOrder_L62 at hf
      refine lv_iload hx hb zd_X10_inOrder_62 (lv_at hl 3 rfl) ?_
      refine lv_bipush (v := 24) hx hb zd_X10_inOrder_64 (by decide) ?_
      refine lv_icmp_ge (tgt := 122) hx hb zd_X10_inOrder_66 (by decide) (fun c15 => ?_) (fun c15 => ?_)
      · replace hf := zo_t c15 hf
        have hres := Option.some.inj hf; subst hres
        exact kk1 _ _ _ _ rfl hw (lv_sub hl [] rfl)
      · replace hf := zo_f c15 hf
        refine lv_iload_n hx hb zd_X10_inOrder_69 rfl (lv_at hl 1 rfl) ?_
        refine lv_if_lt (tgt := 122) hx hb zd_X10_inOrder_70 (by decide) (fun c16 => ?_) (fun c16 => ?_)
        · replace hf := zo_t c16 hf
          have hres := Option.some.inj hf; subst hres
          exact kk1 _ _ _ _ rfl hw (lv_sub hl [] rfl)
        · replace hf := zo_f c16 hf
          refine lv_iconst (v := 0) hx hb zd_X10_inOrder_73 (by decide) ?_
          refine lv_istore (i := 5) (lv' := [(5, .int (0)), (0, va_rf ((some q))), (2, .int (y2)), (3, .int (y3)), (4, .int (y4))]) hx hb zd_X10_inOrder_74 hl (by decide) rfl (fun ls hl => ?_)
          replace hf := zo_b hf; obtain ⟨w26, w26e, hf⟩ := hf
          refine L76 h y2 y4 2000 y3 0 _ _ _ _ w26e hw (lv_sub hl [1, 2, 3, 4, 0] rfl) ?_ ?_
          · intro t27 H locs ls exw26 hw hl
            rw [exw26] at hf
            simp only [Sum.elim_inl, Sum.elim_inr] at hf
            refine lv_iinc (i := 4) (v := (y4 + 1)) (lv' := [(4, .int ((y4 + 1))), (0, va_rf ((some q))), (2, .int (y2)), (3, .int (t27))]) hx hb zd_X10_inOrder_116 hl (k := 3) rfl (congrArg (_ + ·) (by decide)) (by decide) rfl (fun ls hl => ?_)
            refine lv_goto (tgt := 62) hx hb zd_X10_inOrder_119 (by decide) ?_
            exact ih t27 (y4 + 1) _ _ _ _ hf hw (lv_sub hl [1, 2, 3, 0] rfl) kk1 kk2
          · intro t28 H locs ls exw26 hw hl
            rw [exw26] at hf
            simp only [Sum.elim_inl, Sum.elim_inr] at hf
            have hres := Option.some.inj hf; subst hres
            exact kk2 _ _ _ _ rfl hw (lv_sub hl [0] rfl)
  unfold zf_X10_inOrder at hf
  obtain ⟨-, hf⟩ := zo_n hf
  refine zl_aload_n hx hb zd_X10_inOrder_0 rfl (lv_at hl 0 rfl) ?_
  refine lv_iload_n hx hb zd_X10_inOrder_1 rfl (lv_at hl 1 rfl) ?_
  replace hf := zo_b hf; obtain ⟨r1, er1, hf⟩ := hf
  refine zw_callV (n := 1) (ci := 10) (q := zc_cl[10]) (As := [.int (x1)]) (rest := []) S hK hw (zt_X10_isRevision l g h q x1 _ er1) zm_1273 zm_1275 zm_29 zq_X10_isRevision zm_79 (by decide +kernel) ⟨Nat.le_of_ble_eq_true rfl, Nat.le_of_ble_eq_true rfl⟩ rfl rfl rfl (zi_X10_isRevision er1) hl.1 rfl (by simp [zv_cat, zv_ci, zv_cj]) zd_X10_inOrder_2 ⟨(Nat.le_refl 0), (Nat.le_refl 0)⟩ (fun H locs hw => ?_)
  replace hw : zc_W g h H locs := hw
  refine lv_if_ne (tgt := 14) hx hb zd_X10_inOrder_5 (by decide) (fun c2 => ?_) (fun c2 => ?_)
  · replace hf := zo_f c2 hf
    refine lv_iload_n hx hb zd_X10_inOrder_14 rfl (lv_at hl 2 rfl) ?_
    refine lv_istore_n (i := 3) (lv' := [(3, .int (x2)), (0, va_rf ((some q))), (1, .int (x1)), (2, .int (x2))]) hx hb zd_X10_inOrder_15 rfl hl (by decide) rfl (fun ls hl => ?_)
    refine lv_iconst (v := 0) hx hb zd_X10_inOrder_16 (by decide) ?_
    refine lv_istore (i := 4) (lv' := [(4, .int (0)), (3, .int (x2)), (0, va_rf ((some q))), (1, .int (x1)), (2, .int (x2))]) hx hb zd_X10_inOrder_17 hl (by decide) rfl (fun ls hl => ?_)
    replace hf := zo_b hf; obtain ⟨w14, w14e, hf⟩ := hf
    refine L19 x1 x2 x2 2000 h 0 _ _ _ _ w14e hw (lv_sub hl [2, 3, 4, 1, 0] rfl) (fun H locs ls hw hl => ?_)
    refine lv_iconst (v := 0) hx hb zd_X10_inOrder_59 (by decide) ?_
    refine lv_istore (i := 4) (lv' := [(4, .int (0)), (0, va_rf ((some q))), (2, .int (x2)), (3, .int (x2))]) hx hb zd_X10_inOrder_60 hl (by decide) rfl (fun ls hl => ?_)
    replace hf := zo_b hf; obtain ⟨w29, w29e, hf⟩ := hf
    refine L62 w14 x2 2000 x2 0 _ _ _ _ w29e hw (lv_sub hl [1, 2, 3, 0] rfl) ?_ ?_
    · intro t30 H locs ls exw29 hw hl
      rw [exw29] at hf
      simp only [Sum.elim_inl, Sum.elim_inr] at hf
      refine lv_iconst (v := (-1)) hx hb zd_X10_inOrder_122 (by decide) ?_
      have hres := Option.some.inj hf; subst hres
      exact zw_iret (v := (-1)) (ty := .int) hx hb hr hlk rfl hw zd_X10_inOrder_123 (Nat.le_refl 0) (Nat.le_refl 0)
    · intro t31 H locs ls exw29 hw hl
      rw [exw29] at hf
      simp only [Sum.elim_inl, Sum.elim_inr] at hf
      refine lv_iload hx hb zd_X10_inOrder_104 (lv_at hl 0 rfl) ?_
      have hres := Option.some.inj hf; subst hres
      exact zw_iret (v := t31) (ty := .int) hx hb hr hlk rfl hw zd_X10_inOrder_106 (Nat.le_refl 0) (Nat.le_refl 0)
  · replace hf := zo_t c2 hf
    refine zl_aload_n hx hb zd_X10_inOrder_8 rfl (lv_at hl 0 rfl) ?_
    refine lv_iconst (v := (-1)) hx hb zd_X10_inOrder_9 (by decide) ?_
    replace hf := zo_b hf; obtain ⟨r32, er32, hf⟩ := hf
    refine zw_callV (n := 1) (ci := 10) (q := zc_cl[10]) (As := [.int ((-1))]) (rest := []) S hK hw (zt_X10_no10 l g h q (-1) _ er32) zm_1335 zm_1337 zm_40 zq_X10_no10 zm_79 (by decide +kernel) ⟨Nat.le_of_ble_eq_true rfl, Nat.le_of_ble_eq_true rfl⟩ rfl rfl rfl (zi_X10_no10 er32) hl.1 rfl (by simp [zv_cat, zv_ci, zv_cj]) zd_X10_inOrder_10 ⟨(Nat.le_refl 0), (Nat.le_refl 0)⟩ (fun H locs hw => ?_)
    replace hw : zc_W g r32.1 H locs := hw
    have hres := Option.some.inj hf; subst hres
    exact zw_iret (v := r32.2) (ty := .int) hx hb hr hlk rfl hw zd_X10_inOrder_13 (Nat.le_refl 0) (Nat.le_refl 0)
def zf_X10_heat_L2 (q : Nat) (y1 : Int32) : Nat → zc_H → Int32 → Option (zc_H)
  | 0, _, _ => none
  | n + 1, h, y2 =>
    if 24 ≤ y2 then
      some h
    else
    (zf_gr h q 10 26).bind fun v2 =>
    v2.bind fun a4 =>
    (zf_si h a4 0 y2 0).bind fun h5 =>
    zf_X10_heat_L2 q y1 n h5 (y2 + 1)
def zf_X10_heat_L45 (q : Nat) (y1 : Int32) (y2 : Int32) : Nat → zc_H → Int32 → Option (zc_H)
  | 0, _, _ => none
  | n + 1, h, y3 =>
    (zf_gi h q 10 32).bind fun v14 =>
    if v14 < y3 then
      some h
    else
    (zf_gr h q 10 26).bind fun v17 =>
    v17.bind fun a19 =>
    (zf_ai h a19 0 y3).bind fun v20 =>
    (zf_si h a19 0 y3 (v20 + 1)).bind fun h21 =>
    zf_X10_heat_L45 q y1 y2 n h21 (y3 + 1)
def zf_X10_heat_L23 (q : Nat) (y1 : Int32) : Nat → zc_H → Int32 → Option (zc_H)
  | 0, _, _ => none
  | n + 1, h, y2 =>
    (zf_gi h q 10 5).bind fun v7 =>
    if v7 ≤ y2 then
      some h
    else
    (zf_X10_isPut h q y2 y1).bind fun r10 =>
    let k69 := fun (h69j : zc_H) =>
      zf_X10_heat_L23 q y1 n h69j (y2 + 1)
    if r10.2 = 0 then
      k69 r10.1
    else
    (zf_gi r10.1 q 10 31).bind fun v12 =>
    (zf_X10_heat_L45 q y1 y2 2000 r10.1 v12).bind fun w22 =>
    k69 w22
def zf_X10_heat_L79 (h : zc_H) (q : Nat) : Nat → Int32 → Int32 → Option (Int32)
  | 0, _, _ => none
  | n + 1, y2, y3 =>
    if 24 ≤ y3 then
      some y2
    else
    (zf_gr h q 10 26).bind fun v25 =>
    v25.bind fun a27 =>
    (zf_ai h a27 0 y3).bind fun v28 =>
    (zf_gr h q 10 26).bind fun v29 =>
    v29.bind fun a31 =>
    (zf_ai h a31 0 y2).bind fun v32 =>
    let k102 := fun (y102_2 : Int32) =>
      zf_X10_heat_L79 h q n y102_2 (y3 + 1)
    if v28 ≤ v32 then
      k102 y2
    else
    k102 y3
def zf_X10_heat (h : zc_H) (q : Nat) (x1 : Int32) : Option (zc_H × Int32) :=
  if ¬ zf_is h q 10 = true then none else
  (zf_X10_heat_L2 q x1 2000 h 0).bind fun w6 =>
  (zf_X10_heat_L23 q x1 2000 w6 0).bind fun w23 =>
  (zf_X10_heat_L79 w23 q 2000 0 1).bind fun w34 =>
  (zf_gr w23 q 10 26).bind fun v35 =>
  v35.bind fun a37 =>
  (zf_ai w23 a37 0 w34).bind fun v38 =>
  if v38 = 0 then
    some (w23, 99)
  else
  some (w23, w34)
abbrev zr_X10_heat : Room := { frames := 6, cells := 0, slots := 0, locals := 162 }
theorem zi_X10_heat {h : zc_H} {q : Nat} {x1 : Int32} {res : zc_H × Int32} (hf : zf_X10_heat h q x1 = some res) : zf_is h q 10 = true := Decidable.not_not.mp (zo_n hf).1
set_option maxHeartbeats 4000000 in
set_option maxRecDepth 20000 in
theorem zt_X10_heat (l : Launch) (g : zc_G) (h : zc_H) (q : Nat) (x1 : Int32) (res : zc_H × Int32) (hf : zf_X10_heat h q x1 = some res) : zc_M l g yX10_heat cX10_heat 4 (some .int) zr_X10_heat h [va_rf ((some q)), .int (x1)] res.1 (some (.int (res.2))) := by
  refine zc_M.of (by decide) (by simp [lg_sl, zv_cat, zv_ci, zv_cj]) ?_
  intro p e s m below meth c ls S hK hw hr hlk hnm hl
  replace S : CallFix p m c cX10_heat 4 s [va_rf ((some q)), .int (x1)].toArray (zc_ws yX10_heat cX10_heat 4 (some .int)) RX10 := S
  have hx := S.1
  have hb := S.2.1
  replace hl : lv_has ls 4 [(0, va_rf ((some q))), (1, .int (x1))] := by simpa [lv_args, zv_cat, zv_ci, zv_cj] using hl
  generalize s.heap = H at hw ⊢
  obtain ⟨locs, hlocs⟩ : ∃ L : List Loc, L = [] := ⟨_, rfl⟩
  rw [← hlocs] at hw ⊢
  have L2 : ∀ (y1 : Int32) (n : Nat) (h : zc_H) (y2 : Int32) (w : zc_H) (H : Heap) (locs : List Loc) (ls : Array Slot), zf_X10_heat_L2 q y1 n h y2 = some w → zc_W g h H locs → lv_has ls 4 [(0, va_rf ((some q))), (1, .int (y1)), (2, .int (y2))] → (∀ (H : Heap) (locs : List Loc) (ls : Array Slot), zc_W g w H locs → lv_has ls 4 [(0, va_rf ((some q))), (1, .int (y1))] → W p l e zr_X10_heat s m [va_rf ((some q)), .int (x1)].toArray below meth c H locs 0 0 (zc_Q g below zr_X10_heat (some (.int (res.2))) res.1 [va_rf ((some q)), .int (x1)] s) (F0 m 21 ls [])) → W p l e zr_X10_heat s m [va_rf ((some q)), .int (x1)].toArray below meth c H locs 0 0 (zc_Q g below zr_X10_heat (some (.int (res.2))) res.1 [va_rf ((some q)), .int (x1)] s) (F0 m 2 ls []) := by
    intro y1 n
    induction n with
    | zero =>
      intro h y2 w H locs ls hf
      cases hf
    | succ n ih =>
      intro h y2 w H locs ls hf hw hl  kk
      unfold zf_X10_heat_L2 at hf
      refine lv_iload_n hx hb zd_X10_heat_2 rfl (lv_at hl 2 rfl) ?_
      refine lv_bipush (v := 24) hx hb zd_X10_heat_3 (by decide) ?_
      refine lv_icmp_ge (tgt := 21) hx hb zd_X10_heat_5 (by decide) (fun c1 => ?_) (fun c1 => ?_)
      · replace hf := zo_t c1 hf
        have hres := Option.some.inj hf; subst hres
        exact kk _ _ _ hw (lv_sub hl [0, 1] rfl)
      · replace hf := zo_f c1 hf
        refine zl_aload_n hx hb zd_X10_heat_8 rfl (lv_at hl 0 rfl) ?_
        replace hf := zo_b hf; obtain ⟨v2, ev2, hf⟩ := hf
        obtain ⟨u3, u3e, u3v⟩ := zo_b ev2
        obtain rfl := zv_r_e u3v
        refine zw_get S hK hw zk_10 (k := 26) (by decide) rfl zm_1114 (Or.inl rfl) u3e zd_X10_heat_9 ?_
        refine lv_iload_n hx hb zd_X10_heat_12 rfl (lv_at hl 2 rfl) ?_
        refine lv_iconst (v := 0) hx hb zd_X10_heat_13 (by decide) ?_
        replace hf := zo_b hf; obtain ⟨a4, na4, hf⟩ := hf
        refine W.eq (g2 := F0 m 14 ls [.int (0), .int (y2), va_rf ((some a4))]) (by rw [na4] <;> rfl) ?_
        replace hf := zo_b hf; obtain ⟨h5, eh5, hf⟩ := hf
        refine zw_iast S hK hw eh5 zd_X10_heat_14 (fun H locs hw => ?_)
        refine lv_iinc (i := 2) (v := (y2 + 1)) (lv' := [(2, .int ((y2 + 1))), (0, va_rf ((some q))), (1, .int (y1))]) hx hb zd_X10_heat_15 hl (k := 2) rfl (congrArg (_ + ·) (by decide)) (by decide) rfl (fun ls hl => ?_)
        refine lv_goto (tgt := 2) hx hb zd_X10_heat_18 (by decide) ?_
        exact ih h5 (y2 + 1) _ _ _ _ hf hw (lv_sub hl [1, 2, 0] rfl) kk
  have L45 : ∀ (y1 : Int32) (y2 : Int32) (n : Nat) (h : zc_H) (y3 : Int32) (w : zc_H) (H : Heap) (locs : List Loc) (ls : Array Slot), zf_X10_heat_L45 q y1 y2 n h y3 = some w → zc_W g h H locs → lv_has ls 4 [(0, va_rf ((some q))), (1, .int (y1)), (2, .int (y2)), (3, .int (y3))] → (∀ (H : Heap) (locs : List Loc) (ls : Array Slot), zc_W g w H locs → lv_has ls 4 [(0, va_rf ((some q))), (1, .int (y1)), (2, .int (y2))] → W p l e zr_X10_heat s m [va_rf ((some q)), .int (x1)].toArray below meth c H locs 0 0 (zc_Q g below zr_X10_heat (some (.int (res.2))) res.1 [va_rf ((some q)), .int (x1)] s) (F0 m 69 ls [])) → W p l e zr_X10_heat s m [va_rf ((some q)), .int (x1)].toArray below meth c H locs 0 0 (zc_Q g below zr_X10_heat (some (.int (res.2))) res.1 [va_rf ((some q)), .int (x1)] s) (F0 m 45 ls []) := by
    intro y1 y2 n
    induction n with
    | zero =>
      intro h y3 w H locs ls hf
      cases hf
    | succ n ih =>
      intro h y3 w H locs ls hf hw hl  kk
      unfold zf_X10_heat_L45 at hf
      refine lv_iload_n hx hb zd_X10_heat_45 rfl (lv_at hl 3 rfl) ?_
      refine zl_aload_n hx hb zd_X10_heat_46 rfl (lv_at hl 0 rfl) ?_
      replace hf := zo_b hf; obtain ⟨v14, ev14, hf⟩ := hf
      obtain ⟨u15, u15e, u15v⟩ := zo_b ev14
      obtain rfl := zv_i_e u15v
      refine zw_get S hK hw zk_10 (k := 32) (by decide) rfl zm_1120 (Or.inl rfl) u15e zd_X10_heat_47 ?_
      refine lv_icmp_gt (tgt := 69) hx hb zd_X10_heat_50 (by decide) (fun c16 => ?_) (fun c16 => ?_)
      · replace hf := zo_t c16 hf
        have hres := Option.some.inj hf; subst hres
        exact kk _ _ _ hw (lv_sub hl [0, 1, 2] rfl)
      · replace hf := zo_f c16 hf
        refine zl_aload_n hx hb zd_X10_heat_53 rfl (lv_at hl 0 rfl) ?_
        replace hf := zo_b hf; obtain ⟨v17, ev17, hf⟩ := hf
        obtain ⟨u18, u18e, u18v⟩ := zo_b ev17
        obtain rfl := zv_r_e u18v
        refine zw_get S hK hw zk_10 (k := 26) (by decide) rfl zm_1114 (Or.inl rfl) u18e zd_X10_heat_54 ?_
        refine lv_iload_n hx hb zd_X10_heat_57 rfl (lv_at hl 3 rfl) ?_
        refine lv_dup2_11 hx hb zd_X10_heat_58 rfl (zv_cat _) ?_
        replace hf := zo_b hf; obtain ⟨a19, na19, hf⟩ := hf
        refine W.eq (g2 := F0 m 59 ls [.int (y3), va_rf ((some a19)), .int (y3), va_rf (v17)]) (by rw [na19] <;> rfl) ?_
        replace hf := zo_b hf; obtain ⟨v20, ev20, hf⟩ := hf
        refine zw_iald S hK hw ev20 zd_X10_heat_59 ?_
        refine lv_iconst (v := 1) hx hb zd_X10_heat_60 (by decide) ?_
        refine lv_iadd hx hb zd_X10_heat_61 ?_
        refine W.eq (g2 := F0 m 62 ls [.int ((v20 + 1)), .int (y3), va_rf ((some a19))]) (by rw [na19] <;> rfl) ?_
        replace hf := zo_b hf; obtain ⟨h21, eh21, hf⟩ := hf
        refine zw_iast S hK hw eh21 zd_X10_heat_62 (fun H locs hw => ?_)
        refine lv_iinc (i := 3) (v := (y3 + 1)) (lv' := [(3, .int ((y3 + 1))), (0, va_rf ((some q))), (1, .int (y1)), (2, .int (y2))]) hx hb zd_X10_heat_63 hl (k := 3) rfl (congrArg (_ + ·) (by decide)) (by decide) rfl (fun ls hl => ?_)
        refine lv_goto (tgt := 45) hx hb zd_X10_heat_66 (by decide) ?_
        exact ih h21 (y3 + 1) _ _ _ _ hf hw (lv_sub hl [1, 2, 3, 0] rfl) kk
  have L23 : ∀ (y1 : Int32) (n : Nat) (h : zc_H) (y2 : Int32) (w : zc_H) (H : Heap) (locs : List Loc) (ls : Array Slot), zf_X10_heat_L23 q y1 n h y2 = some w → zc_W g h H locs → lv_has ls 4 [(0, va_rf ((some q))), (1, .int (y1)), (2, .int (y2))] → (∀ (H : Heap) (locs : List Loc) (ls : Array Slot), zc_W g w H locs → lv_has ls 4 [(0, va_rf ((some q)))] → W p l e zr_X10_heat s m [va_rf ((some q)), .int (x1)].toArray below meth c H locs 0 0 (zc_Q g below zr_X10_heat (some (.int (res.2))) res.1 [va_rf ((some q)), .int (x1)] s) (F0 m 75 ls [])) → W p l e zr_X10_heat s m [va_rf ((some q)), .int (x1)].toArray below meth c H locs 0 0 (zc_Q g below zr_X10_heat (some (.int (res.2))) res.1 [va_rf ((some q)), .int (x1)] s) (F0 m 23 ls []) := by
    intro y1 n
    induction n with
    | zero =>
      intro h y2 w H locs ls hf
      cases hf
    | succ n ih =>
      intro h y2 w H locs ls hf hw hl  kk
      unfold zf_X10_heat_L23 at hf
      refine lv_iload_n hx hb zd_X10_heat_23 rfl (lv_at hl 2 rfl) ?_
      refine zl_aload_n hx hb zd_X10_heat_24 rfl (lv_at hl 0 rfl) ?_
      replace hf := zo_b hf; obtain ⟨v7, ev7, hf⟩ := hf
      obtain ⟨u8, u8e, u8v⟩ := zo_b ev7
      obtain rfl := zv_i_e u8v
      refine zw_get S hK hw zk_10 (k := 5) (by decide) rfl zm_1093 (Or.inl rfl) u8e zd_X10_heat_25 ?_
      refine lv_icmp_ge (tgt := 75) hx hb zd_X10_heat_28 (by decide) (fun c9 => ?_) (fun c9 => ?_)
      · replace hf := zo_t c9 hf
        have hres := Option.some.inj hf; subst hres
        exact kk _ _ _ hw (lv_sub hl [0] rfl)
      · replace hf := zo_f c9 hf
        refine zl_aload_n hx hb zd_X10_heat_31 rfl (lv_at hl 0 rfl) ?_
        refine lv_iload_n hx hb zd_X10_heat_32 rfl (lv_at hl 2 rfl) ?_
        refine lv_iload_n hx hb zd_X10_heat_33 rfl (lv_at hl 1 rfl) ?_
        replace hf := zo_b hf; obtain ⟨r10, er10, hf⟩ := hf
        refine zw_callV (n := 2) (ci := 10) (q := zc_cl[10]) (As := [.int (y2), .int (y1)]) (rest := []) S hK hw (zt_X10_isPut l g h q y2 y1 _ er10) zm_1452 zm_1454 zm_56 zq_X10_isPut zm_79 (by decide +kernel) ⟨Nat.le_of_ble_eq_true rfl, Nat.le_of_ble_eq_true rfl⟩ rfl rfl rfl (zi_X10_isPut er10) hl.1 rfl (by simp [zv_cat, zv_ci, zv_cj]) zd_X10_heat_34 ⟨(Nat.le_refl 0), (Nat.le_refl 0)⟩ (fun H locs hw => ?_)
        replace hw : zc_W g r10.1 H locs := hw
        have k69h : ∀ (h69j : zc_H) (H : Heap) (locs : List Loc) (ls : Array Slot), (
            zf_X10_heat_L23 q y1 n h69j (y2 + 1)
            ) = some w → zc_W g h69j H locs → lv_has ls 4 [(0, va_rf ((some q))), (1, .int (y1)), (2, .int (y2))] → W p l e zr_X10_heat s m [va_rf ((some q)), .int (x1)].toArray below meth c H locs (0 + 0) (0 + 0) (zc_Q g below zr_X10_heat (some (.int (res.2))) res.1 [va_rf ((some q)), .int (x1)] s) (F0 m 69 ls []) := by
          intro h69j H locs ls hf hw hl
          refine lv_iinc (i := 2) (v := (y2 + 1)) (lv' := [(2, .int ((y2 + 1))), (0, va_rf ((some q))), (1, .int (y1))]) hx hb zd_X10_heat_69 hl (k := 2) rfl (congrArg (_ + ·) (by decide)) (by decide) rfl (fun ls hl => ?_)
          refine lv_goto (tgt := 23) hx hb zd_X10_heat_72 (by decide) ?_
          exact ih h69j (y2 + 1) _ _ _ _ hf hw (lv_sub hl [1, 2, 0] rfl) kk
        refine lv_if_eq (tgt := 69) hx hb zd_X10_heat_37 (by decide) (fun c11 => ?_) (fun c11 => ?_)
        · replace hf := zo_t c11 hf
          exact k69h r10.1 _ _ _ hf hw (lv_sub hl [0, 1, 2] rfl)
        · replace hf := zo_f c11 hf
          refine zl_aload_n hx hb zd_X10_heat_40 rfl (lv_at hl 0 rfl) ?_
          replace hf := zo_b hf; obtain ⟨v12, ev12, hf⟩ := hf
          obtain ⟨u13, u13e, u13v⟩ := zo_b ev12
          obtain rfl := zv_i_e u13v
          refine zw_get S hK hw zk_10 (k := 31) (by decide) rfl zm_1119 (Or.inl rfl) u13e zd_X10_heat_41 ?_
          refine lv_istore_n (i := 3) (lv' := [(3, .int (v12)), (0, va_rf ((some q))), (1, .int (y1)), (2, .int (y2))]) hx hb zd_X10_heat_44 rfl hl (by decide) rfl (fun ls hl => ?_)
          replace hf := zo_b hf; obtain ⟨w22, w22e, hf⟩ := hf
          refine L45 y1 y2 2000 r10.1 v12 _ _ _ _ w22e hw (lv_sub hl [1, 2, 3, 0] rfl) (fun H locs ls hw hl => ?_)
          exact k69h w22 _ _ _ hf hw (lv_sub hl [0, 1, 2] rfl)
  have L79 : ∀ (h : zc_H) (n : Nat) (y2 : Int32) (y3 : Int32) (w : Int32) (H : Heap) (locs : List Loc) (ls : Array Slot), zf_X10_heat_L79 h q n y2 y3 = some w → zc_W g h H locs → lv_has ls 4 [(0, va_rf ((some q))), (2, .int (y2)), (3, .int (y3))] → (∀ (H : Heap) (locs : List Loc) (ls : Array Slot), zc_W g h H locs → lv_has ls 4 [(0, va_rf ((some q))), (2, .int (w))] → W p l e zr_X10_heat s m [va_rf ((some q)), .int (x1)].toArray below meth c H locs 0 0 (zc_Q g below zr_X10_heat (some (.int (res.2))) res.1 [va_rf ((some q)), .int (x1)] s) (F0 m 108 ls [])) → W p l e zr_X10_heat s m [va_rf ((some q)), .int (x1)].toArray below meth c H locs 0 0 (zc_Q g below zr_X10_heat (some (.int (res.2))) res.1 [va_rf ((some q)), .int (x1)] s) (F0 m 79 ls []) := by
    intro h n
    induction n with
    | zero =>
      intro y2 y3 w H locs ls hf
      cases hf
    | succ n ih =>
      intro y2 y3 w H locs ls hf hw hl  kk
      unfold zf_X10_heat_L79 at hf
      refine lv_iload_n hx hb zd_X10_heat_79 rfl (lv_at hl 2 rfl) ?_
      refine lv_bipush (v := 24) hx hb zd_X10_heat_80 (by decide) ?_
      refine lv_icmp_ge (tgt := 108) hx hb zd_X10_heat_82 (by decide) (fun c24 => ?_) (fun c24 => ?_)
      · replace hf := zo_t c24 hf
        have hres := Option.some.inj hf; subst hres
        exact kk _ _ _ hw (lv_sub hl [0, 1] rfl)
      · replace hf := zo_f c24 hf
        refine zl_aload_n hx hb zd_X10_heat_85 rfl (lv_at hl 0 rfl) ?_
        replace hf := zo_b hf; obtain ⟨v25, ev25, hf⟩ := hf
        obtain ⟨u26, u26e, u26v⟩ := zo_b ev25
        obtain rfl := zv_r_e u26v
        refine zw_get S hK hw zk_10 (k := 26) (by decide) rfl zm_1114 (Or.inl rfl) u26e zd_X10_heat_86 ?_
        refine lv_iload_n hx hb zd_X10_heat_89 rfl (lv_at hl 2 rfl) ?_
        replace hf := zo_b hf; obtain ⟨a27, na27, hf⟩ := hf
        refine W.eq (g2 := F0 m 90 ls [.int (y3), va_rf ((some a27))]) (by rw [na27] <;> rfl) ?_
        replace hf := zo_b hf; obtain ⟨v28, ev28, hf⟩ := hf
        refine zw_iald S hK hw ev28 zd_X10_heat_90 ?_
        refine zl_aload_n hx hb zd_X10_heat_91 rfl (lv_at hl 0 rfl) ?_
        replace hf := zo_b hf; obtain ⟨v29, ev29, hf⟩ := hf
        obtain ⟨u30, u30e, u30v⟩ := zo_b ev29
        obtain rfl := zv_r_e u30v
        refine zw_get S hK hw zk_10 (k := 26) (by decide) rfl zm_1114 (Or.inl rfl) u30e zd_X10_heat_92 ?_
        refine lv_iload_n hx hb zd_X10_heat_95 rfl (lv_at hl 1 rfl) ?_
        replace hf := zo_b hf; obtain ⟨a31, na31, hf⟩ := hf
        refine W.eq (g2 := F0 m 96 ls [.int (y2), va_rf ((some a31)), .int (v28)]) (by rw [na31] <;> rfl) ?_
        replace hf := zo_b hf; obtain ⟨v32, ev32, hf⟩ := hf
        refine zw_iald S hK hw ev32 zd_X10_heat_96 ?_
        have k102h : ∀ (y102_2 : Int32) (H : Heap) (locs : List Loc) (ls : Array Slot), (
            zf_X10_heat_L79 h q n y102_2 (y3 + 1)
            ) = some w → zc_W g h H locs → lv_has ls 4 [(0, va_rf ((some q))), (2, .int (y102_2)), (3, .int (y3))] → W p l e zr_X10_heat s m [va_rf ((some q)), .int (x1)].toArray below meth c H locs 0 0 (zc_Q g below zr_X10_heat (some (.int (res.2))) res.1 [va_rf ((some q)), .int (x1)] s) (F0 m 102 ls []) := by
          intro y102_2 H locs ls hf hw hl
          refine lv_iinc (i := 3) (v := (y3 + 1)) (lv' := [(3, .int ((y3 + 1))), (0, va_rf ((some q))), (2, .int (y102_2))]) hx hb zd_X10_heat_102 hl (k := 2) rfl (congrArg (_ + ·) (by decide)) (by decide) rfl (fun ls hl => ?_)
          refine lv_goto (tgt := 79) hx hb zd_X10_heat_105 (by decide) ?_
          exact ih y102_2 (y3 + 1) _ _ _ _ hf hw (lv_sub hl [1, 2, 0] rfl) kk
        refine lv_icmp_le (tgt := 102) hx hb zd_X10_heat_97 (by decide) (fun c33 => ?_) (fun c33 => ?_)
        · replace hf := zo_t c33 hf
          exact k102h y2 _ _ _ hf hw (lv_sub hl [0, 1, 2] rfl)
        · replace hf := zo_f c33 hf
          refine lv_iload_n hx hb zd_X10_heat_100 rfl (lv_at hl 2 rfl) ?_
          refine lv_istore_n (i := 2) (lv' := [(2, .int (y3)), (0, va_rf ((some q))), (3, .int (y3))]) hx hb zd_X10_heat_101 rfl hl (by decide) rfl (fun ls hl => ?_)
          exact k102h y3 _ _ _ hf hw (lv_sub hl [1, 0, 2] rfl)
  unfold zf_X10_heat at hf
  obtain ⟨-, hf⟩ := zo_n hf
  refine lv_iconst (v := 0) hx hb zd_X10_heat_0 (by decide) ?_
  refine lv_istore_n (i := 2) (lv' := [(2, .int (0)), (0, va_rf ((some q))), (1, .int (x1))]) hx hb zd_X10_heat_1 rfl hl (by decide) rfl (fun ls hl => ?_)
  replace hf := zo_b hf; obtain ⟨w6, w6e, hf⟩ := hf
  refine L2 x1 2000 h 0 _ _ _ _ w6e hw (lv_sub hl [1, 2, 0] rfl) (fun H locs ls hw hl => ?_)
  refine lv_iconst (v := 0) hx hb zd_X10_heat_21 (by decide) ?_
  refine lv_istore_n (i := 2) (lv' := [(2, .int (0)), (0, va_rf ((some q))), (1, .int (x1))]) hx hb zd_X10_heat_22 rfl hl (by decide) rfl (fun ls hl => ?_)
  replace hf := zo_b hf; obtain ⟨w23, w23e, hf⟩ := hf
  refine L23 x1 2000 w6 0 _ _ _ _ w23e hw (lv_sub hl [1, 2, 0] rfl) (fun H locs ls hw hl => ?_)
  refine lv_iconst (v := 0) hx hb zd_X10_heat_75 (by decide) ?_
  refine lv_istore_n (i := 2) (lv' := [(2, .int (0)), (0, va_rf ((some q)))]) hx hb zd_X10_heat_76 rfl hl (by decide) rfl (fun ls hl => ?_)
  refine lv_iconst (v := 1) hx hb zd_X10_heat_77 (by decide) ?_
  refine lv_istore_n (i := 3) (lv' := [(3, .int (1)), (2, .int (0)), (0, va_rf ((some q)))]) hx hb zd_X10_heat_78 rfl hl (by decide) rfl (fun ls hl => ?_)
  replace hf := zo_b hf; obtain ⟨w34, w34e, hf⟩ := hf
  refine L79 w23  2000 0 1 _ _ _ _ w34e hw (lv_sub hl [2, 1, 0] rfl) (fun H locs ls hw hl => ?_)
  refine zl_aload_n hx hb zd_X10_heat_108 rfl (lv_at hl 0 rfl) ?_
  replace hf := zo_b hf; obtain ⟨v35, ev35, hf⟩ := hf
  obtain ⟨u36, u36e, u36v⟩ := zo_b ev35
  obtain rfl := zv_r_e u36v
  refine zw_get S hK hw zk_10 (k := 26) (by decide) rfl zm_1114 (Or.inl rfl) u36e zd_X10_heat_109 ?_
  refine lv_iload_n hx hb zd_X10_heat_112 rfl (lv_at hl 1 rfl) ?_
  replace hf := zo_b hf; obtain ⟨a37, na37, hf⟩ := hf
  refine W.eq (g2 := F0 m 113 ls [.int (w34), va_rf ((some a37))]) (by rw [na37] <;> rfl) ?_
  replace hf := zo_b hf; obtain ⟨v38, ev38, hf⟩ := hf
  refine zw_iald S hK hw ev38 zd_X10_heat_113 ?_
  refine lv_if_ne (tgt := 122) hx hb zd_X10_heat_114 (by decide) (fun c39 => ?_) (fun c39 => ?_)
  · replace hf := zo_f c39 hf
    refine lv_iload_n hx hb zd_X10_heat_122 rfl (lv_at hl 1 rfl) ?_
    have hres := Option.some.inj hf; subst hres
    exact zw_iret (v := w34) (ty := .int) hx hb hr hlk rfl hw zd_X10_heat_123 (Nat.le_refl 0) (Nat.le_refl 0)
  · replace hf := zo_t c39 hf
    refine lv_bipush (v := 99) hx hb zd_X10_heat_117 (by decide) ?_
    refine lv_goto (tgt := 123) hx hb zd_X10_heat_119 (by decide) ?_
    have hres := Option.some.inj hf; subst hres
    exact zw_iret (v := 99) (ty := .int) hx hb hr hlk rfl hw zd_X10_heat_123 (Nat.le_refl 0) (Nat.le_refl 0)
def zf_X10_who_L46 (q : Nat) (y1 : Int32) (y2 : Int32) : Nat → zc_H → Int32 → Int32 → Option (zc_H × Int32)
  | 0, _, _, _ => none
  | n + 1, h, y3, y4 =>
    (zf_gi h q 10 5).bind fun v6 =>
    if v6 ≤ y4 then
      some (h, y3)
    else
    (zf_X10_of h q 0 y4).bind fun r9 =>
    (zf_X10_puts h q y4 r9 y1 0).bind fun r10 =>
    let k106 := fun (y106_3 : Int32) =>
      zf_X10_who_L46 q y1 y2 n r10.1 y106_3 (y4 + 1)
    if r10.2 = 0 then
      k106 y3
    else
    (zf_gi r10.1 q 10 33).bind fun v12 =>
    let k86 := fun (s86_0 : Int32) =>
      let k96 := fun (s96_0 : Int32) (s96_1 : Int32) =>
        if s96_1 = s96_0 then
          k106 (y3 ||| (1 <<< (y4 &&& 31)))
        else
        k106 y3
      if y2 = 1 then
        k96 1 s86_0
      else
      k96 0 s86_0
    if v12 = 3 then
      k86 1
    else
    k86 0
def zf_X10_who (h : zc_H) (q : Nat) (x1 : Int32) (x2 : Int32) : Option (zc_H × Int32) :=
  if ¬ zf_is h q 10 = true then none else
  (zf_X10_isRevision h q x1).bind fun r1 =>
  if r1 = 0 then
    (zf_X10_no h q (-1)).bind fun r20 =>
    some (r20.1, r20.2)
  else
  (zf_X10_within h x2 0 2).bind fun r3 =>
  if r3 = 0 then
    (zf_X10_no h q (-5)).bind fun r19 =>
    some (r19.1, r19.2)
  else
  if x2 = 2 then
    (zf_X10_heat h q x1).bind fun r18 =>
    some (r18.1, r18.2)
  else
  (zf_X10_who_L46 q x1 x2 2000 h 0 0).bind fun w17 =>
  some (w17.1, w17.2)
abbrev zr_X10_who : Room := { frames := 7, cells := 0, slots := 0, locals := 185 }
theorem zi_X10_who {h : zc_H} {q : Nat} {x1 : Int32} {x2 : Int32} {res : zc_H × Int32} (hf : zf_X10_who h q x1 x2 = some res) : zf_is h q 10 = true := Decidable.not_not.mp (zo_n hf).1
set_option maxHeartbeats 4000000 in
set_option maxRecDepth 20000 in
theorem zt_X10_who (l : Launch) (g : zc_G) (h : zc_H) (q : Nat) (x1 : Int32) (x2 : Int32) (res : zc_H × Int32) (hf : zf_X10_who h q x1 x2 = some res) : zc_M l g yX10_who cX10_who 5 (some .int) zr_X10_who h [va_rf ((some q)), .int (x1), .int (x2)] res.1 (some (.int (res.2))) := by
  refine zc_M.of (by decide) (by simp [lg_sl, zv_cat, zv_ci, zv_cj]) ?_
  intro p e s m below meth c ls S hK hw hr hlk hnm hl
  replace S : CallFix p m c cX10_who 5 s [va_rf ((some q)), .int (x1), .int (x2)].toArray (zc_ws yX10_who cX10_who 5 (some .int)) RX10 := S
  have hx := S.1
  have hb := S.2.1
  replace hl : lv_has ls 5 [(0, va_rf ((some q))), (1, .int (x1)), (2, .int (x2))] := by simpa [lv_args, zv_cat, zv_ci, zv_cj] using hl
  generalize s.heap = H at hw ⊢
  obtain ⟨locs, hlocs⟩ : ∃ L : List Loc, L = [] := ⟨_, rfl⟩
  rw [← hlocs] at hw ⊢
  have L46 : ∀ (y1 : Int32) (y2 : Int32) (n : Nat) (h : zc_H) (y3 : Int32) (y4 : Int32) (w : zc_H × Int32) (H : Heap) (locs : List Loc) (ls : Array Slot), zf_X10_who_L46 q y1 y2 n h y3 y4 = some w → zc_W g h H locs → lv_has ls 5 [(0, va_rf ((some q))), (1, .int (y1)), (2, .int (y2)), (3, .int (y3)), (4, .int (y4))] → (∀ (H : Heap) (locs : List Loc) (ls : Array Slot), zc_W g w.1 H locs → lv_has ls 5 [(3, .int (w.2))] → W p l e zr_X10_who s m [va_rf ((some q)), .int (x1), .int (x2)].toArray below meth c H locs 0 0 (zc_Q g below zr_X10_who (some (.int (res.2))) res.1 [va_rf ((some q)), .int (x1), .int (x2)] s) (F0 m 112 ls [])) → W p l e zr_X10_who s m [va_rf ((some q)), .int (x1), .int (x2)].toArray below meth c H locs 0 0 (zc_Q g below zr_X10_who (some (.int (res.2))) res.1 [va_rf ((some q)), .int (x1), .int (x2)] s) (F0 m 46 ls []) := by
    intro y1 y2 n
    induction n with
    | zero =>
      intro h y3 y4 w H locs ls hf
      cases hf
    | succ n ih =>
      intro h y3 y4 w H locs ls hf hw hl  kk
      unfold zf_X10_who_L46 at hf
      refine lv_iload hx hb zd_X10_who_46 (lv_at hl 4 rfl) ?_
      refine zl_aload_n hx hb zd_X10_who_48 rfl (lv_at hl 0 rfl) ?_
      replace hf := zo_b hf; obtain ⟨v6, ev6, hf⟩ := hf
      obtain ⟨u7, u7e, u7v⟩ := zo_b ev6
      obtain rfl := zv_i_e u7v
      refine zw_get S hK hw zk_10 (k := 5) (by decide) rfl zm_1093 (Or.inl rfl) u7e zd_X10_who_49 ?_
      refine lv_icmp_ge (tgt := 112) hx hb zd_X10_who_52 (by decide) (fun c8 => ?_) (fun c8 => ?_)
      · replace hf := zo_t c8 hf
        have hres := Option.some.inj hf; subst hres
        exact kk _ _ _ hw (lv_sub hl [3] rfl)
      · replace hf := zo_f c8 hf
        refine zl_aload_n hx hb zd_X10_who_55 rfl (lv_at hl 0 rfl) ?_
        refine lv_iload hx hb zd_X10_who_56 (lv_at hl 4 rfl) ?_
        refine zl_aload_n hx hb zd_X10_who_58 rfl (lv_at hl 0 rfl) ?_
        refine lv_iconst (v := 0) hx hb zd_X10_who_59 (by decide) ?_
        refine lv_iload hx hb zd_X10_who_60 (lv_at hl 4 rfl) ?_
        replace hf := zo_b hf; obtain ⟨r9, er9, hf⟩ := hf
        refine zw_callV (n := 2) (ci := 10) (q := zc_cl[10]) (As := [.int (0), .int (y4)]) (rest := [.int (y4), va_rf ((some q))]) S hK hw (zt_X10_of l g h q 0 y4 _ er9) zm_1259 zm_1261 zm_28 zq_X10_of zm_79 (by decide +kernel) ⟨Nat.le_of_ble_eq_true rfl, Nat.le_of_ble_eq_true rfl⟩ rfl rfl rfl (zi_X10_of er9) hl.1 rfl (by simp [zv_cat, zv_ci, zv_cj]) zd_X10_who_62 ⟨(Nat.le_refl 0), (Nat.le_refl 0)⟩ (fun H locs hw => ?_)
        replace hw : zc_W g h H locs := hw
        refine lv_iload_n hx hb zd_X10_who_65 rfl (lv_at hl 1 rfl) ?_
        refine lv_iconst (v := 0) hx hb zd_X10_who_66 (by decide) ?_
        replace hf := zo_b hf; obtain ⟨r10, er10, hf⟩ := hf
        refine zw_callV (n := 4) (ci := 10) (q := zc_cl[10]) (As := [.int (y4), .int (r9), .int (y1), .int (0)]) (rest := []) S hK hw (zt_X10_puts l g h q y4 r9 y1 0 _ er10) zm_1403 zm_1405 zm_48 zq_X10_puts zm_79 (by decide +kernel) ⟨Nat.le_of_ble_eq_true rfl, Nat.le_of_ble_eq_true rfl⟩ rfl rfl rfl (zi_X10_puts er10) hl.1 rfl (by simp [zv_cat, zv_ci, zv_cj]) zd_X10_who_67 ⟨(Nat.le_refl 0), (Nat.le_refl 0)⟩ (fun H locs hw => ?_)
        replace hw : zc_W g r10.1 H locs := hw
        have k106h : ∀ (y106_3 : Int32) (H : Heap) (locs : List Loc) (ls : Array Slot), (
            zf_X10_who_L46 q y1 y2 n r10.1 y106_3 (y4 + 1)
            ) = some w → zc_W g r10.1 H locs → lv_has ls 5 [(0, va_rf ((some q))), (1, .int (y1)), (2, .int (y2)), (3, .int (y106_3)), (4, .int (y4))] → W p l e zr_X10_who s m [va_rf ((some q)), .int (x1), .int (x2)].toArray below meth c H locs ((0 + 0) + 0) ((0 + 0) + 0) (zc_Q g below zr_X10_who (some (.int (res.2))) res.1 [va_rf ((some q)), .int (x1), .int (x2)] s) (F0 m 106 ls []) := by
          intro y106_3 H locs ls hf hw hl
          refine lv_iinc (i := 4) (v := (y4 + 1)) (lv' := [(4, .int ((y4 + 1))), (0, va_rf ((some q))), (1, .int (y1)), (2, .int (y2)), (3, .int (y106_3))]) hx hb zd_X10_who_106 hl (k := 4) rfl (congrArg (_ + ·) (by decide)) (by decide) rfl (fun ls hl => ?_)
          refine lv_goto (tgt := 46) hx hb zd_X10_who_109 (by decide) ?_
          exact ih r10.1 y106_3 (y4 + 1) _ _ _ _ hf hw (lv_sub hl [1, 2, 3, 4, 0] rfl) kk
        refine lv_if_eq (tgt := 106) hx hb zd_X10_who_70 (by decide) (fun c11 => ?_) (fun c11 => ?_)
        · replace hf := zo_t c11 hf
          exact k106h y3 _ _ _ hf hw (lv_sub hl [0, 1, 2, 3, 4] rfl)
        · replace hf := zo_f c11 hf
          refine zl_aload_n hx hb zd_X10_who_73 rfl (lv_at hl 0 rfl) ?_
          replace hf := zo_b hf; obtain ⟨v12, ev12, hf⟩ := hf
          obtain ⟨u13, u13e, u13v⟩ := zo_b ev12
          obtain rfl := zv_i_e u13v
          refine zw_get S hK hw zk_10 (k := 33) (by decide) rfl zm_1121 (Or.inl rfl) u13e zd_X10_who_74 ?_
          refine lv_iconst (v := 3) hx hb zd_X10_who_77 (by decide) ?_
          have k86h : ∀ (s86_0 : Int32) (H : Heap) (locs : List Loc) (ls : Array Slot), (
              let k106 := fun (y106_3 : Int32) =>
                zf_X10_who_L46 q y1 y2 n r10.1 y106_3 (y4 + 1)
              let k96 := fun (s96_0 : Int32) (s96_1 : Int32) =>
                if s96_1 = s96_0 then
                  k106 (y3 ||| (1 <<< (y4 &&& 31)))
                else
                k106 y3
              if y2 = 1 then
                k96 1 s86_0
              else
              k96 0 s86_0
              ) = some w → zc_W g r10.1 H locs → lv_has ls 5 [(0, va_rf ((some q))), (1, .int (y1)), (2, .int (y2)), (3, .int (y3)), (4, .int (y4))] → W p l e zr_X10_who s m [va_rf ((some q)), .int (x1), .int (x2)].toArray below meth c H locs ((0 + 0) + 0) ((0 + 0) + 0) (zc_Q g below zr_X10_who (some (.int (res.2))) res.1 [va_rf ((some q)), .int (x1), .int (x2)] s) (F0 m 86 ls [.int (s86_0)]) := by
            intro s86_0 H locs ls hf hw hl
            refine lv_iload_n hx hb zd_X10_who_86 rfl (lv_at hl 2 rfl) ?_
            refine lv_iconst (v := 1) hx hb zd_X10_who_87 (by decide) ?_
            have k96h : ∀ (s96_0 : Int32) (s96_1 : Int32) (H : Heap) (locs : List Loc) (ls : Array Slot), (
                let k106 := fun (y106_3 : Int32) =>
                  zf_X10_who_L46 q y1 y2 n r10.1 y106_3 (y4 + 1)
                if s96_1 = s96_0 then
                  k106 (y3 ||| (1 <<< (y4 &&& 31)))
                else
                k106 y3
                ) = some w → zc_W g r10.1 H locs → lv_has ls 5 [(0, va_rf ((some q))), (1, .int (y1)), (2, .int (y2)), (3, .int (y3)), (4, .int (y4))] → W p l e zr_X10_who s m [va_rf ((some q)), .int (x1), .int (x2)].toArray below meth c H locs ((0 + 0) + 0) ((0 + 0) + 0) (zc_Q g below zr_X10_who (some (.int (res.2))) res.1 [va_rf ((some q)), .int (x1), .int (x2)] s) (F0 m 96 ls [.int (s96_0), .int (s96_1)]) := by
              intro s96_0 s96_1 H locs ls hf hw hl
              refine lv_icmp_ne (tgt := 106) hx hb zd_X10_who_96 (by decide) (fun c16 => ?_) (fun c16 => ?_)
              · replace hf := zo_f c16 hf
                exact k106h y3 _ _ _ hf hw (lv_sub hl [0, 1, 2, 3, 4] rfl)
              · replace hf := zo_t c16 hf
                refine lv_iload_n hx hb zd_X10_who_99 rfl (lv_at hl 3 rfl) ?_
                refine lv_iconst (v := 1) hx hb zd_X10_who_100 (by decide) ?_
                refine lv_iload hx hb zd_X10_who_101 (lv_at hl 4 rfl) ?_
                refine lv_ishl hx hb zd_X10_who_103 ?_
                refine lv_ior hx hb zd_X10_who_104 ?_
                refine lv_istore_n (i := 3) (lv' := [(3, .int ((y3 ||| (1 <<< (y4 &&& 31))))), (0, va_rf ((some q))), (1, .int (y1)), (2, .int (y2)), (4, .int (y4))]) hx hb zd_X10_who_105 rfl hl (by decide) rfl (fun ls hl => ?_)
                exact k106h (y3 ||| (1 <<< (y4 &&& 31))) _ _ _ hf hw (lv_sub hl [1, 2, 3, 0, 4] rfl)
            refine lv_icmp_ne (tgt := 95) hx hb zd_X10_who_88 (by decide) (fun c15 => ?_) (fun c15 => ?_)
            · replace hf := zo_f c15 hf
              refine lv_iconst (v := 0) hx hb zd_X10_who_95 (by decide) ?_
              exact k96h 0 s86_0 _ _ _ hf hw (lv_sub hl [0, 1, 2, 3, 4] rfl)
            · replace hf := zo_t c15 hf
              refine lv_iconst (v := 1) hx hb zd_X10_who_91 (by decide) ?_
              refine lv_goto (tgt := 96) hx hb zd_X10_who_92 (by decide) ?_
              exact k96h 1 s86_0 _ _ _ hf hw (lv_sub hl [0, 1, 2, 3, 4] rfl)
          refine lv_icmp_ne (tgt := 85) hx hb zd_X10_who_78 (by decide) (fun c14 => ?_) (fun c14 => ?_)
          · replace hf := zo_f c14 hf
            refine lv_iconst (v := 0) hx hb zd_X10_who_85 (by decide) ?_
            exact k86h 0 _ _ _ hf hw (lv_sub hl [0, 1, 2, 3, 4] rfl)
          · replace hf := zo_t c14 hf
            refine lv_iconst (v := 1) hx hb zd_X10_who_81 (by decide) ?_
            refine lv_goto (tgt := 86) hx hb zd_X10_who_82 (by decide) ?_
            exact k86h 1 _ _ _ hf hw (lv_sub hl [0, 1, 2, 3, 4] rfl)
  unfold zf_X10_who at hf
  obtain ⟨-, hf⟩ := zo_n hf
  refine zl_aload_n hx hb zd_X10_who_0 rfl (lv_at hl 0 rfl) ?_
  refine lv_iload_n hx hb zd_X10_who_1 rfl (lv_at hl 1 rfl) ?_
  replace hf := zo_b hf; obtain ⟨r1, er1, hf⟩ := hf
  refine zw_callV (n := 1) (ci := 10) (q := zc_cl[10]) (As := [.int (x1)]) (rest := []) S hK hw (zt_X10_isRevision l g h q x1 _ er1) zm_1273 zm_1275 zm_29 zq_X10_isRevision zm_79 (by decide +kernel) ⟨Nat.le_of_ble_eq_true rfl, Nat.le_of_ble_eq_true rfl⟩ rfl rfl rfl (zi_X10_isRevision er1) hl.1 rfl (by simp [zv_cat, zv_ci, zv_cj]) zd_X10_who_2 ⟨(Nat.le_refl 0), (Nat.le_refl 0)⟩ (fun H locs hw => ?_)
  replace hw : zc_W g h H locs := hw
  refine lv_if_ne (tgt := 14) hx hb zd_X10_who_5 (by decide) (fun c2 => ?_) (fun c2 => ?_)
  · replace hf := zo_f c2 hf
    refine lv_iload_n hx hb zd_X10_who_14 rfl (lv_at hl 2 rfl) ?_
    refine lv_iconst (v := 0) hx hb zd_X10_who_15 (by decide) ?_
    refine lv_iconst (v := 2) hx hb zd_X10_who_16 (by decide) ?_
    replace hf := zo_b hf; obtain ⟨r3, er3, hf⟩ := hf
    refine zw_callS (n := 3) (As := [.int (x2), .int (0), .int (2)]) (rest := []) S hK hw (zt_X10_within l g h x2 0 2 _ er3) zm_1216 zm_1217 zq_X10_within zm_79 (by decide +kernel) ⟨Nat.le_of_ble_eq_true rfl, Nat.le_of_ble_eq_true rfl⟩ rfl hl.1 rfl (by simp [zv_cat, zv_ci, zv_cj]) zd_X10_who_17 ⟨(Nat.le_refl 0), (Nat.le_refl 0)⟩ (fun H locs hw => ?_)
    replace hw : zc_W g h H locs := hw
    refine lv_if_ne (tgt := 30) hx hb zd_X10_who_20 (by decide) (fun c4 => ?_) (fun c4 => ?_)
    · replace hf := zo_f c4 hf
      refine lv_iload_n hx hb zd_X10_who_30 rfl (lv_at hl 2 rfl) ?_
      refine lv_iconst (v := 2) hx hb zd_X10_who_31 (by decide) ?_
      refine lv_icmp_ne (tgt := 41) hx hb zd_X10_who_32 (by decide) (fun c5 => ?_) (fun c5 => ?_)
      · replace hf := zo_f c5 hf
        refine lv_iconst (v := 0) hx hb zd_X10_who_41 (by decide) ?_
        refine lv_istore_n (i := 3) (lv' := [(3, .int (0)), (0, va_rf ((some q))), (1, .int (x1)), (2, .int (x2))]) hx hb zd_X10_who_42 rfl hl (by decide) rfl (fun ls hl => ?_)
        refine lv_iconst (v := 0) hx hb zd_X10_who_43 (by decide) ?_
        refine lv_istore (i := 4) (lv' := [(4, .int (0)), (3, .int (0)), (0, va_rf ((some q))), (1, .int (x1)), (2, .int (x2))]) hx hb zd_X10_who_44 hl (by decide) rfl (fun ls hl => ?_)
        replace hf := zo_b hf; obtain ⟨w17, w17e, hf⟩ := hf
        refine L46 x1 x2 2000 h 0 0 _ _ _ _ w17e hw (lv_sub hl [2, 3, 4, 1, 0] rfl) (fun H locs ls hw hl => ?_)
        refine lv_iload_n hx hb zd_X10_who_112 rfl (lv_at hl 0 rfl) ?_
        have hres := Option.some.inj hf; subst hres
        exact zw_iret (v := w17.2) (ty := .int) hx hb hr hlk rfl hw zd_X10_who_113 (Nat.le_refl 0) (Nat.le_refl 0)
      · replace hf := zo_t c5 hf
        refine zl_aload_n hx hb zd_X10_who_35 rfl (lv_at hl 0 rfl) ?_
        refine lv_iload_n hx hb zd_X10_who_36 rfl (lv_at hl 1 rfl) ?_
        replace hf := zo_b hf; obtain ⟨r18, er18, hf⟩ := hf
        refine zw_callV (n := 1) (ci := 10) (q := zc_cl[10]) (As := [.int (x1)]) (rest := []) S hK hw (zt_X10_heat l g h q x1 _ er18) zm_1460 zm_1462 zm_57 zq_X10_heat zm_79 (by decide +kernel) ⟨Nat.le_of_ble_eq_true rfl, Nat.le_of_ble_eq_true rfl⟩ rfl rfl rfl (zi_X10_heat er18) hl.1 rfl (by simp [zv_cat, zv_ci, zv_cj]) zd_X10_who_37 ⟨(Nat.le_refl 0), (Nat.le_refl 0)⟩ (fun H locs hw => ?_)
        replace hw : zc_W g r18.1 H locs := hw
        have hres := Option.some.inj hf; subst hres
        exact zw_iret (v := r18.2) (ty := .int) hx hb hr hlk rfl hw zd_X10_who_40 (Nat.le_refl 0) (Nat.le_refl 0)
    · replace hf := zo_t c4 hf
      refine zl_aload_n hx hb zd_X10_who_23 rfl (lv_at hl 0 rfl) ?_
      refine lv_bipush (v := (-5)) hx hb zd_X10_who_24 (by decide) ?_
      replace hf := zo_b hf; obtain ⟨r19, er19, hf⟩ := hf
      refine zw_callV (n := 1) (ci := 10) (q := zc_cl[10]) (As := [.int ((-5))]) (rest := []) S hK hw (zt_X10_no l g h q (-5) _ er19) zm_1219 zm_1221 zm_24 zq_X10_no zm_79 (by decide +kernel) ⟨Nat.le_of_ble_eq_true rfl, Nat.le_of_ble_eq_true rfl⟩ rfl rfl rfl (zi_X10_no er19) hl.1 rfl (by simp [zv_cat, zv_ci, zv_cj]) zd_X10_who_26 ⟨(Nat.le_refl 0), (Nat.le_refl 0)⟩ (fun H locs hw => ?_)
      replace hw : zc_W g r19.1 H locs := hw
      have hres := Option.some.inj hf; subst hres
      exact zw_iret (v := r19.2) (ty := .int) hx hb hr hlk rfl hw zd_X10_who_29 (Nat.le_refl 0) (Nat.le_refl 0)
  · replace hf := zo_t c2 hf
    refine zl_aload_n hx hb zd_X10_who_8 rfl (lv_at hl 0 rfl) ?_
    refine lv_iconst (v := (-1)) hx hb zd_X10_who_9 (by decide) ?_
    replace hf := zo_b hf; obtain ⟨r20, er20, hf⟩ := hf
    refine zw_callV (n := 1) (ci := 10) (q := zc_cl[10]) (As := [.int ((-1))]) (rest := []) S hK hw (zt_X10_no l g h q (-1) _ er20) zm_1219 zm_1221 zm_24 zq_X10_no zm_79 (by decide +kernel) ⟨Nat.le_of_ble_eq_true rfl, Nat.le_of_ble_eq_true rfl⟩ rfl rfl rfl (zi_X10_no er20) hl.1 rfl (by simp [zv_cat, zv_ci, zv_cj]) zd_X10_who_10 ⟨(Nat.le_refl 0), (Nat.le_refl 0)⟩ (fun H locs hw => ?_)
    replace hw : zc_W g r20.1 H locs := hw
    have hres := Option.some.inj hf; subst hres
    exact zw_iret (v := r20.2) (ty := .int) hx hb hr hlk rfl hw zd_X10_who_13 (Nat.le_refl 0) (Nat.le_refl 0)
