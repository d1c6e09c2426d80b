def zf_X3_toTheEnd (h : zc_H) (x0 : Int32) (x1 : Option Nat) : Option (Int32) :=
  if x0 = (-1) then
    some (-1)
  else
  (zf_X9_firstOf h x0).bind fun r2 =>
  x1.bind fun a3 =>
  (zf_X4_count h a3).bind fun r4 =>
  (zf_X9_spanOf h r2 (r4 - 1)).bind fun r5 =>
  some r5
abbrev zr_X3_toTheEnd : Room := { frames := 1, cells := 0, slots := 0, locals := 21 }
set_option maxHeartbeats 4000000 in
set_option maxRecDepth 20000 in
theorem zt_X3_toTheEnd (l : Launch) (g : zc_G) (h : zc_H) (x0 : Int32) (x1 : Option Nat) (res : Int32) (hf : zf_X3_toTheEnd h x0 x1 = some res) : zc_M l g yX3_toTheEnd cX3_toTheEnd 2 (some .int) zr_X3_toTheEnd h [.int (x0), va_rf (x1)] h (some (.int (res))) := by
  refine zc_M.of (by decide) (by simp [lg_sl, zv_cat, zv_ci, zv_cj]) ?_
  intro p e s m below meth c ls S hK hw hr hlk hnm hl
  replace S : CallFix p m c cX3_toTheEnd 2 s [.int (x0), va_rf (x1)].toArray (zc_ws yX3_toTheEnd cX3_toTheEnd 2 (some .int)) RX3 := S
  have hx := S.1
  have hb := S.2.1
  replace hl : lv_has ls 2 [(0, .int (x0)), (1, va_rf (x1))] := by simpa [lv_args, zv_cat, zv_ci, zv_cj] using hl
  generalize s.heap = H at hw ⊢
  obtain ⟨locs, hlocs⟩ : ∃ L : List Loc, L = [] := ⟨_, rfl⟩
  rw [← hlocs] at hw ⊢
  unfold zf_X3_toTheEnd at hf
  refine lv_iload_n hx hb zd_X3_toTheEnd_0 rfl (lv_at hl 0 rfl) ?_
  refine lv_iconst (v := (-1)) hx hb zd_X3_toTheEnd_1 (by decide) ?_
  refine lv_icmp_ne (tgt := 9) hx hb zd_X3_toTheEnd_2 (by decide) (fun c1 => ?_) (fun c1 => ?_)
  · replace hf := zo_f c1 hf
    refine lv_iload_n hx hb zd_X3_toTheEnd_9 rfl (lv_at hl 0 rfl) ?_
    replace hf := zo_b hf; obtain ⟨r2, er2, hf⟩ := hf
    refine zw_callSN (n := 1) (As := [.int (x0)]) (rest := []) S hK hw (zt_X9_firstOf l g h x0 _ er2) zm_477 zm_474 zq_X9_firstOf zm_68 (by decide +kernel) ⟨Nat.le_of_ble_eq_true rfl, Nat.le_of_ble_eq_true rfl⟩ rfl hl.1 rfl (by simp [zv_cat, zv_ci, zv_cj]) zd_X3_toTheEnd_10 ⟨(Nat.le_refl 0), (Nat.le_refl 0)⟩ (fun H locs hw => ?_)
    replace hw : zc_W g h H locs := hw
    refine zl_aload_n hx hb zd_X3_toTheEnd_13 rfl (lv_at hl 1 rfl) ?_
    replace hf := zo_b hf; obtain ⟨a3, na3, hf⟩ := hf
    refine W.eq (g2 := F0 m 14 ls [va_rf ((some a3)), .int (r2)]) (by rw [na3] <;> rfl) ?_
    replace hf := zo_b hf; obtain ⟨r4, er4, hf⟩ := hf
    refine zw_callV (n := 0) (ci := 4) (q := zc_cl[4]) (As := []) (rest := [.int (r2)]) S hK hw (zt_X4_count l g h a3 _ er4) zm_872 zm_618 zm_619 zq_X4_count zm_84 (by decide +kernel) ⟨Nat.le_of_ble_eq_true rfl, Nat.le_of_ble_eq_true rfl⟩ rfl rfl rfl (zi_X4_count er4) hl.1 rfl (by simp [zv_cat, zv_ci, zv_cj]) zd_X3_toTheEnd_14 ⟨(Nat.le_refl 0), (Nat.le_refl 0)⟩ (fun H locs hw => ?_)
    replace hw : zc_W g h H locs := hw
    refine lv_iconst (v := 1) hx hb zd_X3_toTheEnd_17 (by decide) ?_
    refine lv_isub hx hb zd_X3_toTheEnd_18 ?_
    replace hf := zo_b hf; obtain ⟨r5, er5, hf⟩ := hf
    refine zw_callSN (n := 2) (As := [.int (r2), .int ((r4 - 1))]) (rest := []) S hK hw (zt_X9_spanOf l g h r2 (r4 - 1) _ er5) zm_868 zm_749 zq_X9_spanOf zm_68 (by decide +kernel) ⟨Nat.le_of_ble_eq_true rfl, Nat.le_of_ble_eq_true rfl⟩ rfl hl.1 rfl (by simp [zv_cat, zv_ci, zv_cj]) zd_X3_toTheEnd_19 ⟨(Nat.le_refl 0), (Nat.le_refl 0)⟩ (fun H locs hw => ?_)
    replace hw : zc_W g h H locs := hw
    have hres := Option.some.inj hf; subst hres
    exact zw_iret (v := r5) (ty := .int) hx hb hr hlk rfl hw zd_X3_toTheEnd_22 (Nat.le_refl 0) (Nat.le_refl 0)
  · replace hf := zo_t c1 hf
    refine lv_iconst (v := (-1)) hx hb zd_X3_toTheEnd_5 (by decide) ?_
    refine lv_goto (tgt := 22) hx hb zd_X3_toTheEnd_6 (by decide) ?_
    have hres := Option.some.inj hf; subst hres
    exact zw_iret (v := (-1)) (ty := .int) hx hb hr hlk rfl hw zd_X3_toTheEnd_22 (Nat.le_refl 0) (Nat.le_refl 0)
def zf_X3_followed (h : zc_H) (q : Nat) (x1 : Int32) (x2 : Int32) (x3 : Int32) (x4 : Option Nat) : Option (Int32) :=
  if ¬ zf_is h q 3 = true then none else
  if x1 = 1 then
    x4.bind fun a2 =>
    (zf_X4_spreadOf h a2 x2 x2).bind fun r3 =>
    some r3
  else
  if x1 = 2 then
    (zf_X3_whole h x2 x3 x4 0).bind fun r5 =>
    some r5
  else
  if x1 = 3 then
    (zf_X3_nearest h x2 x4).bind fun r7 =>
    some r7
  else
  if x1 = 4 then
    x4.bind fun a9 =>
    (zf_X4_placedOf h a9 x2 x3).bind fun r10 =>
    (zf_gi h q 3 2).bind fun v11 =>
    if (v11 * ((x3 - x2) + 1)) ≤ (10 * r10) then
      (zf_X4_spreadOf h a9 x2 x3).bind fun r14 =>
      some r14
    else
    some (-1)
  else
  if x1 = 5 then
    (zf_gi h q 3 2).bind fun v16 =>
    (zf_X3_whole h x2 x3 x4 v16).bind fun r18 =>
    some r18
  else
  if x1 = 6 then
    (zf_X3_nearest h x2 x4).bind fun r20 =>
    (zf_X3_toTheEnd h r20 x4).bind fun r21 =>
    some r21
  else
  x4.bind fun a22 =>
  (zf_X4_spreadOf h a22 x2 x3).bind fun r23 =>
  some r23
abbrev zr_X3_followed : Room := { frames := 3, cells := 0, slots := 0, locals := 91 }
theorem zi_X3_followed {h : zc_H} {q : Nat} {x1 : Int32} {x2 : Int32} {x3 : Int32} {x4 : Option Nat} {res : Int32} (hf : zf_X3_followed h q x1 x2 x3 x4 = some res) : zf_is h q 3 = true := Decidable.not_not.mp (zo_n hf).1
set_option maxHeartbeats 4000000 in
set_option maxRecDepth 20000 in
theorem zt_X3_followed (l : Launch) (g : zc_G) (h : zc_H) (q : Nat) (x1 : Int32) (x2 : Int32) (x3 : Int32) (x4 : Option Nat) (res : Int32) (hf : zf_X3_followed h q x1 x2 x3 x4 = some res) : zc_M l g yX3_followed cX3_followed 5 (some .int) zr_X3_followed h [va_rf ((some q)), .int (x1), .int (x2), .int (x3), va_rf (x4)] h (some (.int (res))) := by
  refine zc_M.of (by decide) (by simp [lg_sl, zv_cat, zv_ci, zv_cj]) ?_
  intro p e s m below meth c ls S hK hw hr hlk hnm hl
  replace S : CallFix p m c cX3_followed 5 s [va_rf ((some q)), .int (x1), .int (x2), .int (x3), va_rf (x4)].toArray (zc_ws yX3_followed cX3_followed 5 (some .int)) RX3 := S
  have hx := S.1
  have hb := S.2.1
  replace hl : lv_has ls 5 [(0, va_rf ((some q))), (1, .int (x1)), (2, .int (x2)), (3, .int (x3)), (4, va_rf (x4))] := by simpa [lv_args, zv_cat, zv_ci, zv_cj] using hl
  generalize s.heap = H at hw ⊢
  obtain ⟨locs, hlocs⟩ : ∃ L : List Loc, L = [] := ⟨_, rfl⟩
  rw [← hlocs] at hw ⊢
  unfold zf_X3_followed at hf
  obtain ⟨-, hf⟩ := zo_n hf
  refine lv_iload_n hx hb zd_X3_followed_0 rfl (lv_at hl 1 rfl) ?_
  by_cases c1 : x1 = 1
  · replace hf := zo_t c1 hf
    refine W.eq (g2 := F0 m 1 ls (.int 1 :: [])) (by rw [c1] <;> rfl) ?_
    refine lv_tableIn (off := 39) (tgt := 40) hx hb zd_X3_followed_1 (by decide) (by decide) (by decide) (by decide) ?_
    refine zl_aload hx hb zd_X3_followed_40 (lv_at hl 4 rfl) ?_
    refine lv_iload_n hx hb zd_X3_followed_42 rfl (lv_at hl 2 rfl) ?_
    refine lv_iload_n hx hb zd_X3_followed_43 rfl (lv_at hl 2 rfl) ?_
    replace hf := zo_b hf; obtain ⟨a2, na2, hf⟩ := hf
    refine W.eq (g2 := F0 m 44 ls [.int (x2), .int (x2), va_rf ((some a2))]) (by rw [na2] <;> rfl) ?_
    replace hf := zo_b hf; obtain ⟨r3, er3, hf⟩ := hf
    refine zw_callV (n := 2) (ci := 4) (q := zc_cl[4]) (As := [.int (x2), .int (x2)]) (rest := []) S hK hw (zt_X4_spreadOf l g h a2 x2 x2 _ er3) zm_849 zm_850 zm_851 zq_X4_spreadOf zm_84 (by decide +kernel) ⟨Nat.le_of_ble_eq_true rfl, Nat.le_of_ble_eq_true rfl⟩ rfl rfl rfl (zi_X4_spreadOf er3) hl.1 rfl (by simp [zv_cat, zv_ci, zv_cj]) zd_X3_followed_44 ⟨(Nat.le_refl 0), (Nat.le_refl 0)⟩ (fun H locs hw => ?_)
    replace hw : zc_W g h H locs := hw
    have hres := Option.some.inj hf; subst hres
    exact zw_iret (v := r3) (ty := .int) hx hb hr hlk rfl hw zd_X3_followed_47 (Nat.le_refl 0) (Nat.le_refl 0)
  replace hf := zo_f c1 hf
  by_cases c4 : x1 = 2
  · replace hf := zo_t c4 hf
    refine W.eq (g2 := F0 m 1 ls (.int 2 :: [])) (by rw [c4] <;> rfl) ?_
    refine lv_tableIn (off := 47) (tgt := 48) hx hb zd_X3_followed_1 (by decide) (by decide) (by decide) (by decide) ?_
    refine lv_iload_n hx hb zd_X3_followed_48 rfl (lv_at hl 2 rfl) ?_
    refine lv_iload_n hx hb zd_X3_followed_49 rfl (lv_at hl 3 rfl) ?_
    refine zl_aload hx hb zd_X3_followed_50 (lv_at hl 4 rfl) ?_
    refine lv_iconst (v := 0) hx hb zd_X3_followed_52 (by decide) ?_
    replace hf := zo_b hf; obtain ⟨r5, er5, hf⟩ := hf
    refine zw_callS (n := 4) (As := [.int (x2), .int (x3), va_rf (x4), .int (0)]) (rest := []) S hK hw (zt_X3_whole l g h x2 x3 x4 0 _ er5) zm_857 zm_858 zq_X3_whole zm_87 (by decide +kernel) ⟨Nat.le_of_ble_eq_true rfl, Nat.le_of_ble_eq_true rfl⟩ rfl hl.1 rfl (by simp [zv_cat, zv_ci, zv_cj]) zd_X3_followed_53 ⟨(Nat.le_refl 0), (Nat.le_refl 0)⟩ (fun H locs hw => ?_)
    replace hw : zc_W g h H locs := hw
    have hres := Option.some.inj hf; subst hres
    exact zw_iret (v := r5) (ty := .int) hx hb hr hlk rfl hw zd_X3_followed_56 (Nat.le_refl 0) (Nat.le_refl 0)
  replace hf := zo_f c4 hf
  by_cases c6 : x1 = 3
  · replace hf := zo_t c6 hf
    refine W.eq (g2 := F0 m 1 ls (.int 3 :: [])) (by rw [c6] <;> rfl) ?_
    refine lv_tableIn (off := 56) (tgt := 57) hx hb zd_X3_followed_1 (by decide) (by decide) (by decide) (by decide) ?_
    refine lv_iload_n hx hb zd_X3_followed_57 rfl (lv_at hl 2 rfl) ?_
    refine zl_aload hx hb zd_X3_followed_58 (lv_at hl 4 rfl) ?_
    replace hf := zo_b hf; obtain ⟨r7, er7, hf⟩ := hf
    refine zw_callS (n := 2) (As := [.int (x2), va_rf (x4)]) (rest := []) S hK hw (zt_X3_nearest l g h x2 x4 _ er7) zm_864 zm_865 zq_X3_nearest zm_87 (by decide +kernel) ⟨Nat.le_of_ble_eq_true rfl, Nat.le_of_ble_eq_true rfl⟩ rfl hl.1 rfl (by simp [zv_cat, zv_ci, zv_cj]) zd_X3_followed_60 ⟨(Nat.le_refl 0), (Nat.le_refl 0)⟩ (fun H locs hw => ?_)
    replace hw : zc_W g h H locs := hw
    have hres := Option.some.inj hf; subst hres
    exact zw_iret (v := r7) (ty := .int) hx hb hr hlk rfl hw zd_X3_followed_63 (Nat.le_refl 0) (Nat.le_refl 0)
  replace hf := zo_f c6 hf
  by_cases c8 : x1 = 4
  · replace hf := zo_t c8 hf
    refine W.eq (g2 := F0 m 1 ls (.int 4 :: [])) (by rw [c8] <;> rfl) ?_
    refine lv_tableIn (off := 63) (tgt := 64) hx hb zd_X3_followed_1 (by decide) (by decide) (by decide) (by decide) ?_
    refine lv_bipush (v := 10) hx hb zd_X3_followed_64 (by decide) ?_
    refine zl_aload hx hb zd_X3_followed_66 (lv_at hl 4 rfl) ?_
    refine lv_iload_n hx hb zd_X3_followed_68 rfl (lv_at hl 2 rfl) ?_
    refine lv_iload_n hx hb zd_X3_followed_69 rfl (lv_at hl 3 rfl) ?_
    replace hf := zo_b hf; obtain ⟨a9, na9, hf⟩ := hf
    refine W.eq (g2 := F0 m 70 ls [.int (x3), .int (x2), va_rf ((some a9)), .int (10)]) (by rw [na9] <;> rfl) ?_
    replace hf := zo_b hf; obtain ⟨r10, er10, hf⟩ := hf
    refine zw_callV (n := 2) (ci := 4) (q := zc_cl[4]) (As := [.int (x2), .int (x3)]) (rest := [.int (10)]) S hK hw (zt_X4_placedOf l g h a9 x2 x3 _ er10) zm_860 zm_861 zm_862 zq_X4_placedOf zm_84 (by decide +kernel) ⟨Nat.le_of_ble_eq_true rfl, Nat.le_of_ble_eq_true rfl⟩ rfl rfl rfl (zi_X4_placedOf er10) hl.1 rfl (by simp [zv_cat, zv_ci, zv_cj]) zd_X3_followed_70 ⟨(Nat.le_refl 0), (Nat.le_refl 0)⟩ (fun H locs hw => ?_)
    replace hw : zc_W g h H locs := hw
    refine lv_imul hx hb zd_X3_followed_73 ?_
    refine zl_aload_n hx hb zd_X3_followed_74 rfl (lv_at hl 0 rfl) ?_
    replace hf := zo_b hf; obtain ⟨v11, ev11, hf⟩ := hf
    obtain ⟨u12, u12e, u12v⟩ := zo_b ev11
    obtain rfl := zv_i_e u12v
    refine zw_get S hK hw zk_3 (k := 2) (by decide) rfl zm_762 (Or.inl rfl) u12e zd_X3_followed_75 ?_
    refine lv_iload_n hx hb zd_X3_followed_78 rfl (lv_at hl 3 rfl) ?_
    refine lv_iload_n hx hb zd_X3_followed_79 rfl (lv_at hl 2 rfl) ?_
    refine lv_isub hx hb zd_X3_followed_80 ?_
    refine lv_iconst (v := 1) hx hb zd_X3_followed_81 (by decide) ?_
    refine lv_iadd hx hb zd_X3_followed_82 ?_
    refine lv_imul hx hb zd_X3_followed_83 ?_
    refine lv_icmp_ge (tgt := 91) hx hb zd_X3_followed_84 (by decide) (fun c13 => ?_) (fun c13 => ?_)
    · replace hf := zo_t c13 hf
      refine zl_aload hx hb zd_X3_followed_91 (lv_at hl 4 rfl) ?_
      refine lv_iload_n hx hb zd_X3_followed_93 rfl (lv_at hl 2 rfl) ?_
      refine lv_iload_n hx hb zd_X3_followed_94 rfl (lv_at hl 3 rfl) ?_
      refine W.eq (g2 := F0 m 95 ls [.int (x3), .int (x2), va_rf ((some a9))]) (by rw [na9] <;> rfl) ?_
      replace hf := zo_b hf; obtain ⟨r14, er14, hf⟩ := hf
      refine zw_callV (n := 2) (ci := 4) (q := zc_cl[4]) (As := [.int (x2), .int (x3)]) (rest := []) S hK hw (zt_X4_spreadOf l g h a9 x2 x3 _ er14) zm_849 zm_850 zm_851 zq_X4_spreadOf zm_84 (by decide +kernel) ⟨Nat.le_of_ble_eq_true rfl, Nat.le_of_ble_eq_true rfl⟩ rfl rfl rfl (zi_X4_spreadOf er14) hl.1 rfl (by simp [zv_cat, zv_ci, zv_cj]) zd_X3_followed_95 ⟨(Nat.le_refl 0), (Nat.le_refl 0)⟩ (fun H locs hw => ?_)
      replace hw : zc_W g h H locs := hw
      have hres := Option.some.inj hf; subst hres
      exact zw_iret (v := r14) (ty := .int) hx hb hr hlk rfl hw zd_X3_followed_98 (Nat.le_refl 0) (Nat.le_refl 0)
    · replace hf := zo_f c13 hf
      refine lv_iconst (v := (-1)) hx hb zd_X3_followed_87 (by decide) ?_
      refine lv_goto (tgt := 98) hx hb zd_X3_followed_88 (by decide) ?_
      have hres := Option.some.inj hf; subst hres
      exact zw_iret (v := (-1)) (ty := .int) hx hb hr hlk rfl hw zd_X3_followed_98 (Nat.le_refl 0) (Nat.le_refl 0)
  replace hf := zo_f c8 hf
  by_cases c15 : x1 = 5
  · replace hf := zo_t c15 hf
    refine W.eq (g2 := F0 m 1 ls (.int 5 :: [])) (by rw [c15] <;> rfl) ?_
    refine lv_tableIn (off := 98) (tgt := 99) hx hb zd_X3_followed_1 (by decide) (by decide) (by decide) (by decide) ?_
    refine lv_iload_n hx hb zd_X3_followed_99 rfl (lv_at hl 2 rfl) ?_
    refine lv_iload_n hx hb zd_X3_followed_100 rfl (lv_at hl 3 rfl) ?_
    refine zl_aload hx hb zd_X3_followed_101 (lv_at hl 4 rfl) ?_
    refine zl_aload_n hx hb zd_X3_followed_103 rfl (lv_at hl 0 rfl) ?_
    replace hf := zo_b hf; obtain ⟨v16, ev16, hf⟩ := hf
    obtain ⟨u17, u17e, u17v⟩ := zo_b ev16
    obtain rfl := zv_i_e u17v
    refine zw_get S hK hw zk_3 (k := 2) (by decide) rfl zm_762 (Or.inl rfl) u17e zd_X3_followed_104 ?_
    replace hf := zo_b hf; obtain ⟨r18, er18, hf⟩ := hf
    refine zw_callS (n := 4) (As := [.int (x2), .int (x3), va_rf (x4), .int (v16)]) (rest := []) S hK hw (zt_X3_whole l g h x2 x3 x4 v16 _ er18) zm_857 zm_858 zq_X3_whole zm_87 (by decide +kernel) ⟨Nat.le_of_ble_eq_true rfl, Nat.le_of_ble_eq_true rfl⟩ rfl hl.1 rfl (by simp [zv_cat, zv_ci, zv_cj]) zd_X3_followed_107 ⟨(Nat.le_refl 0), (Nat.le_refl 0)⟩ (fun H locs hw => ?_)
    replace hw : zc_W g h H locs := hw
    have hres := Option.some.inj hf; subst hres
    exact zw_iret (v := r18) (ty := .int) hx hb hr hlk rfl hw zd_X3_followed_110 (Nat.le_refl 0) (Nat.le_refl 0)
  replace hf := zo_f c15 hf
  by_cases c19 : x1 = 6
  · replace hf := zo_t c19 hf
    refine W.eq (g2 := F0 m 1 ls (.int 6 :: [])) (by rw [c19] <;> rfl) ?_
    refine lv_tableIn (off := 110) (tgt := 111) hx hb zd_X3_followed_1 (by decide) (by decide) (by decide) (by decide) ?_
    refine lv_iload_n hx hb zd_X3_followed_111 rfl (lv_at hl 2 rfl) ?_
    refine zl_aload hx hb zd_X3_followed_112 (lv_at hl 4 rfl) ?_
    replace hf := zo_b hf; obtain ⟨r20, er20, hf⟩ := hf
    refine zw_callS (n := 2) (As := [.int (x2), va_rf (x4)]) (rest := []) S hK hw (zt_X3_nearest l g h x2 x4 _ er20) zm_864 zm_865 zq_X3_nearest zm_87 (by decide +kernel) ⟨Nat.le_of_ble_eq_true rfl, Nat.le_of_ble_eq_true rfl⟩ rfl hl.1 rfl (by simp [zv_cat, zv_ci, zv_cj]) zd_X3_followed_114 ⟨(Nat.le_refl 0), (Nat.le_refl 0)⟩ (fun H locs hw => ?_)
    replace hw : zc_W g h H locs := hw
    refine zl_aload hx hb zd_X3_followed_117 (lv_at hl 4 rfl) ?_
    replace hf := zo_b hf; obtain ⟨r21, er21, hf⟩ := hf
    refine zw_callS (n := 2) (As := [.int (r20), va_rf (x4)]) (rest := []) S hK hw (zt_X3_toTheEnd l g h r20 x4 _ er21) zm_869 zm_870 zq_X3_toTheEnd zm_87 (by decide +kernel) ⟨Nat.le_of_ble_eq_true rfl, Nat.le_of_ble_eq_true rfl⟩ rfl hl.1 rfl (by simp [zv_cat, zv_ci, zv_cj]) zd_X3_followed_119 ⟨(Nat.le_refl 0), (Nat.le_refl 0)⟩ (fun H locs hw => ?_)
    replace hw : zc_W g h H locs := hw
    have hres := Option.some.inj hf; subst hres
    exact zw_iret (v := r21) (ty := .int) hx hb hr hlk rfl hw zd_X3_followed_122 (Nat.le_refl 0) (Nat.le_refl 0)
  replace hf := zo_f c19 hf
  have zc1 : (x1 : Int32).toInt ≠ 1 := fun h => c1 (Int32.toInt_inj.mp (h.trans (by decide)))
  have zc4 : (x1 : Int32).toInt ≠ 2 := fun h => c4 (Int32.toInt_inj.mp (h.trans (by decide)))
  have zc6 : (x1 : Int32).toInt ≠ 3 := fun h => c6 (Int32.toInt_inj.mp (h.trans (by decide)))
  have zc8 : (x1 : Int32).toInt ≠ 4 := fun h => c8 (Int32.toInt_inj.mp (h.trans (by decide)))
  have zc15 : (x1 : Int32).toInt ≠ 5 := fun h => c15 (Int32.toInt_inj.mp (h.trans (by decide)))
  have zc19 : (x1 : Int32).toInt ≠ 6 := fun h => c19 (Int32.toInt_inj.mp (h.trans (by decide)))
  refine lv_tableOut (tgt := 123) hx hb zd_X3_followed_1 (by omega) (by decide) ?_
  refine zl_aload hx hb zd_X3_followed_123 (lv_at hl 4 rfl) ?_
  refine lv_iload_n hx hb zd_X3_followed_125 rfl (lv_at hl 2 rfl) ?_
  refine lv_iload_n hx hb zd_X3_followed_126 rfl (lv_at hl 3 rfl) ?_
  replace hf := zo_b hf; obtain ⟨a22, na22, hf⟩ := hf
  refine W.eq (g2 := F0 m 127 ls [.int (x3), .int (x2), va_rf ((some a22))]) (by rw [na22] <;> rfl) ?_
  replace hf := zo_b hf; obtain ⟨r23, er23, hf⟩ := hf
  refine zw_callV (n := 2) (ci := 4) (q := zc_cl[4]) (As := [.int (x2), .int (x3)]) (rest := []) S hK hw (zt_X4_spreadOf l g h a22 x2 x3 _ er23) zm_849 zm_850 zm_851 zq_X4_spreadOf zm_84 (by decide +kernel) ⟨Nat.le_of_ble_eq_true rfl, Nat.le_of_ble_eq_true rfl⟩ rfl rfl rfl (zi_X4_spreadOf er23) hl.1 rfl (by simp [zv_cat, zv_ci, zv_cj]) zd_X3_followed_127 ⟨(Nat.le_refl 0), (Nat.le_refl 0)⟩ (fun H locs hw => ?_)
  replace hw : zc_W g h H locs := hw
  have hres := Option.some.inj hf; subst hres
  exact zw_iret (v := r23) (ty := .int) hx hb hr hlk rfl hw zd_X3_followed_130 (Nat.le_refl 0) (Nat.le_refl 0)
def zf_X4_init (h : zc_H) (q : Nat) (x1 : Int32) (x2 : Option Nat) (x3 : Option Nat) : Option (zc_H) :=
  if ¬ zf_is h q 4 = true then none else
  (zf_p h q 4 0 (.int (x1))).bind fun h1 =>
  (zf_p h1 q 4 1 (va_rf (x2))).bind fun h2 =>
  (zf_p h2 q 4 2 (va_rf (x3))).bind fun h3 =>
  let k33 := fun (s33_0 : Int32) (s33_1 : Option Nat) =>
    if s33_0 < 0 ∨ 40 < (s33_0 : Int32).toNatClampNeg then none else
    (some (zf_new h3 (.inl (0, (s33_0 : Int32).toNatClampNeg, .inl (fun _ => 0))))).bind fun h5 =>
    s33_1.bind fun a7 =>
    (zf_p h5 a7 4 3 (va_rf ((some h3.2.1)))).bind fun h8 =>
    some h8
  if x2 = none then
    k33 0 (some q)
  else
  x2.bind fun a9 =>
  (zf_gr h3 a9 4 2).bind fun v10 =>
  v10.bind fun a12 =>
  (zf_len h3 a12).bind fun v13 =>
  k33 v13 (some q)
abbrev zr_X4_init : Room := { frames := 1, cells := 1, slots := 40, locals := 40 }
theorem zi_X4_init {h : zc_H} {q : Nat} {x1 : Int32} {x2 : Option Nat} {x3 : Option Nat} {res : zc_H} (hf : zf_X4_init h q x1 x2 x3 = some res) : zf_is h q 4 = true := Decidable.not_not.mp (zo_n hf).1
set_option maxHeartbeats 4000000 in
set_option maxRecDepth 20000 in
theorem zt_X4_init (l : Launch) (g : zc_G) (h : zc_H) (q : Nat) (x1 : Int32) (x2 : Option Nat) (x3 : Option Nat) (res : zc_H) (hf : zf_X4_init h q x1 x2 x3 = some res) : zc_M l g yX4_init cX4_init 4 none zr_X4_init h [va_rf ((some q)), .int (x1), va_rf (x2), va_rf (x3)] res none := by
  refine zc_M.of (by decide) (by simp [lg_sl, zv_cat, zv_ci, zv_cj]) ?_
  intro p e s m below meth c ls S hK hw hr hlk hnm hl
  replace S : CallFix p m c cX4_init 4 s [va_rf ((some q)), .int (x1), va_rf (x2), va_rf (x3)].toArray (zc_ws yX4_init cX4_init 4 none) RX4 := S
  have hx := S.1
  have hb := S.2.1
  replace hl : lv_has ls 4 [(0, va_rf ((some q))), (1, .int (x1)), (2, va_rf (x2)), (3, va_rf (x3))] := by simpa [lv_args, zv_cat, zv_ci, zv_cj] using hl
  generalize s.heap = H at hw ⊢
  obtain ⟨locs, hlocs⟩ : ∃ L : List Loc, L = [] := ⟨_, rfl⟩
  rw [← hlocs] at hw ⊢
  unfold zf_X4_init at hf
  obtain ⟨-, hf⟩ := zo_n hf
  refine zl_aload_n hx hb zd_X4_init_0 rfl (lv_at hl 0 rfl) ?_
  refine W.objInit hx hb S.2.2.2.1 (S.2.2.2.2 _ (List.mem_cons_of_mem _ zm_528)) (S.2.2.2.2 _ (List.mem_cons_of_mem _ zm_95)) (S.2.2.2.2 _ (List.mem_cons_of_mem _ zm_96)) rfl (by rw [S.2.2.1]; exact hl.1) rfl zd_X4_init_1 (Nat.le_of_ble_eq_true rfl) (by simp [F0, JFrame.monitorRoom, zv_cat, zv_ci, zv_cj, zr_X4_init]) ?_
  refine W.eq (g2 := F0 m 4 ls []) rfl ?_
  refine zl_aload_n hx hb zd_X4_init_4 rfl (lv_at hl 0 rfl) ?_
  refine lv_iload_n hx hb zd_X4_init_5 rfl (lv_at hl 1 rfl) ?_
  replace hf := zo_b hf; obtain ⟨h1, eh1, hf⟩ := hf
  refine zw_putF S hK hw zk_4 (k := 0) (by decide) rfl zm_529 hnm eh1 (ty := .int) (by decide +kernel) rfl rfl zd_X4_init_6 (fun H locs hw => ?_)
  refine zl_aload_n hx hb zd_X4_init_9 rfl (lv_at hl 0 rfl) ?_
  refine zl_aload_n hx hb zd_X4_init_10 rfl (lv_at hl 2 rfl) ?_
  replace hf := zo_b hf; obtain ⟨h2, eh2, hf⟩ := hf
  refine zw_putF S hK hw zk_4 (k := 1) (by decide) rfl zm_532 hnm eh2 (ty := (.object "LineRemarks$Revision")) (by decide +kernel) (zv_rnO _ _) (zv_rfO _ _) zd_X4_init_11 (fun H locs hw => ?_)
  refine zl_aload_n hx hb zd_X4_init_14 rfl (lv_at hl 0 rfl) ?_
  refine zl_aload_n hx hb zd_X4_init_15 rfl (lv_at hl 3 rfl) ?_
  replace hf := zo_b hf; obtain ⟨h3, eh3, hf⟩ := hf
  refine zw_putF S hK hw zk_4 (k := 2) (by decide) rfl zm_535 hnm eh3 (ty := (.array .long)) (by decide +kernel) (zv_rnA _ _) (zv_rfA _ _) zd_X4_init_16 (fun H locs hw => ?_)
  refine zl_aload_n hx hb zd_X4_init_19 rfl (lv_at hl 0 rfl) ?_
  refine zl_aload_n hx hb zd_X4_init_20 rfl (lv_at hl 2 rfl) ?_
  have k33h : ∀ (s33_0 : Int32) (s33_1 : Option Nat) (H : Heap) (locs : List Loc) (ls : Array Slot), (
      if s33_0 < 0 ∨ 40 < (s33_0 : Int32).toNatClampNeg then none else
      (some (zf_new h3 (.inl (0, (s33_0 : Int32).toNatClampNeg, .inl (fun _ => 0))))).bind fun h5 =>
      s33_1.bind fun a7 =>
      (zf_p h5 a7 4 3 (va_rf ((some h3.2.1)))).bind fun h8 =>
      some h8
      ) = some res → zc_W g h3 H locs → lv_has ls 4 [] → W p l e zr_X4_init s m [va_rf ((some q)), .int (x1), va_rf (x2), va_rf (x3)].toArray below meth c H locs 0 0 (zc_Q g below zr_X4_init none res [va_rf ((some q)), .int (x1), va_rf (x2), va_rf (x3)] s) (F0 m 33 ls [.int (s33_0), va_rf (s33_1)]) := by
    intro s33_0 s33_1 H locs ls hf hw hl
    replace hf := zo_n hf; obtain ⟨z6, hf⟩ := hf
    replace hf := zo_b hf; obtain ⟨h5, eh5, hf⟩ := hf
    refine zw_newa (atype := .int) (t := 0) (a0 := ((s33_0 : Int32).toNatClampNeg, .inl (fun _ => 0))) (ty := .int) (N := (s33_0 : Int32).toNatClampNeg) (K := 40) S hK hw zm_175 rfl rfl (Nat.le_of_ble_eq_true rfl) (fun h => h) (fun _ => rfl) (fun z => z6 (Or.inl z)) rfl (Nat.not_lt.mp fun z => z6 (Or.inr z)) (by decide) (by show _ ≤ (1 : Nat); omega) (by show _ ≤ (40 : Nat); omega) zd_X4_init_33 (fun H hw => ?_)
    replace hw : zc_W g h5 H locs := (Option.some.inj eh5) ▸ hw
    replace hf := zo_b hf; obtain ⟨a7, na7, hf⟩ := hf
    refine W.eq (g2 := F0 m 35 ls [va_rf ((some h3.2.1)), va_rf ((some a7))]) (by rw [na7] <;> rfl) ?_
    replace hf := zo_b hf; obtain ⟨h8, eh8, hf⟩ := hf
    refine zw_putF S hK hw zk_4 (k := 3) (by decide) rfl zm_536 hnm eh8 (ty := (.array .int)) (by decide +kernel) (zv_rnA _ _) (zv_rfA _ _) zd_X4_init_35 (fun H locs hw => ?_)
    have hres := Option.some.inj hf; subst hres
    exact zw_vret hx hb hr hlk hw zd_X4_init_38 (by show _ ≤ (1 : Nat); omega) (by show _ ≤ (40 : Nat); omega)
  refine zl_ifnonnull (tgt := 28) hx hb zd_X4_init_21 (by decide) (fun c4 => ?_) (fun c4 => ?_)
  · replace hf := zo_f c4 hf
    refine zl_aload_n hx hb zd_X4_init_28 rfl (lv_at hl 2 rfl) ?_
    replace hf := zo_b hf; obtain ⟨a9, na9, hf⟩ := hf
    refine W.eq (g2 := F0 m 29 ls [va_rf ((some a9)), va_rf ((some q))]) (by rw [na9] <;> rfl) ?_
    replace hf := zo_b hf; obtain ⟨v10, ev10, hf⟩ := hf
    obtain ⟨u11, u11e, u11v⟩ := zo_b ev10
    obtain rfl := zv_r_e u11v
    refine zw_get S hK hw zk_4 (k := 2) (by decide) rfl zm_535 (Or.inl rfl) u11e zd_X4_init_29 ?_
    replace hf := zo_b hf; obtain ⟨a12, na12, hf⟩ := hf
    refine W.eq (g2 := F0 m 32 ls [va_rf ((some a12)), va_rf ((some q))]) (by rw [na12] <;> rfl) ?_
    replace hf := zo_b hf; obtain ⟨v13, ev13, hf⟩ := hf
    refine zw_alen S hK hw ev13 zd_X4_init_32 ?_
    exact k33h v13 (some q) _ _ _ hf hw (lv_sub hl [] rfl)
  · replace hf := zo_t c4 hf
    refine lv_iconst (v := 0) hx hb zd_X4_init_24 (by decide) ?_
    refine lv_goto (tgt := 33) hx hb zd_X4_init_25 (by decide) ?_
    exact k33h 0 (some q) _ _ _ hf hw (lv_sub hl [] rfl)
def zf_X4_hasLine (h : zc_H) (q : Nat) (x1 : Int32) : Option (Int32) :=
  if ¬ zf_is h q 4 = true then none else
  if x1 < 0 then
    some 0
  else
  (zf_gr h q 4 2).bind fun v2 =>
  v2.bind fun a4 =>
  (zf_len h a4).bind fun v5 =>
  if v5 ≤ x1 then
    some 0
  else
  some 1
abbrev zr_X4_hasLine : Room := { frames := 0, cells := 0, slots := 0, locals := 0 }
theorem zi_X4_hasLine {h : zc_H} {q : Nat} {x1 : Int32} {res : Int32} (hf : zf_X4_hasLine h q x1 = some res) : zf_is h q 4 = true := Decidable.not_not.mp (zo_n hf).1
set_option maxHeartbeats 4000000 in
set_option maxRecDepth 20000 in
theorem zt_X4_hasLine (l : Launch) (g : zc_G) (h : zc_H) (q : Nat) (x1 : Int32) (res : Int32) (hf : zf_X4_hasLine h q x1 = some res) : zc_M l g yX4_hasLine cX4_hasLine 2 (some .boolean) zr_X4_hasLine h [va_rf ((some q)), .int (x1)] h (some (.int (res))) := by
  refine zc_M.of (by decide) (by simp [lg_sl, zv_cat, zv_ci, zv_cj]) ?_
  intro p e s m below meth c ls S hK hw hr hlk hnm hl
  replace S : CallFix p m c cX4_hasLine 2 s [va_rf ((some q)), .int (x1)].toArray (zc_ws yX4_hasLine cX4_hasLine 2 (some .boolean)) RX4 := S
  have hx := S.1
  have hb := S.2.1
  replace hl : lv_has ls 2 [(0, va_rf ((some q))), (1, .int (x1))] := by simpa [lv_args, zv_cat, zv_ci, zv_cj] using hl
  generalize s.heap = H at hw ⊢
  obtain ⟨locs, hlocs⟩ : ∃ L : List Loc, L = [] := ⟨_, rfl⟩
  rw [← hlocs] at hw ⊢
  unfold zf_X4_hasLine at hf
  obtain ⟨-, hf⟩ := zo_n hf
  refine lv_iload_n hx hb zd_X4_hasLine_0 rfl (lv_at hl 1 rfl) ?_
  refine lv_if_lt (tgt := 17) hx hb zd_X4_hasLine_1 (by decide) (fun c1 => ?_) (fun c1 => ?_)
  · replace hf := zo_t c1 hf
    refine lv_iconst (v := 0) hx hb zd_X4_hasLine_17 (by decide) ?_
    have hres := Option.some.inj hf; subst hres
    exact zw_iret (v := 0) (ty := .boolean) hx hb hr hlk rfl hw zd_X4_hasLine_18 (Nat.le_refl 0) (Nat.le_refl 0)
  · replace hf := zo_f c1 hf
    refine lv_iload_n hx hb zd_X4_hasLine_4 rfl (lv_at hl 1 rfl) ?_
    refine zl_aload_n hx hb zd_X4_hasLine_5 rfl (lv_at hl 0 rfl) ?_
    replace hf := zo_b hf; obtain ⟨v2, ev2, hf⟩ := hf
    obtain ⟨u3, u3e, u3v⟩ := zo_b ev2
    obtain rfl := zv_r_e u3v
    refine zw_get S hK hw zk_4 (k := 2) (by decide) rfl zm_535 (Or.inl rfl) u3e zd_X4_hasLine_6 ?_
    replace hf := zo_b hf; obtain ⟨a4, na4, hf⟩ := hf
    refine W.eq (g2 := F0 m 9 ls [va_rf ((some a4)), .int (x1)]) (by rw [na4] <;> rfl) ?_
    replace hf := zo_b hf; obtain ⟨v5, ev5, hf⟩ := hf
    refine zw_alen S hK hw ev5 zd_X4_hasLine_9 ?_
    refine lv_icmp_ge (tgt := 17) hx hb zd_X4_hasLine_10 (by decide) (fun c6 => ?_) (fun c6 => ?_)
    · replace hf := zo_t c6 hf
      refine lv_iconst (v := 0) hx hb zd_X4_hasLine_17 (by decide) ?_
      have hres := Option.some.inj hf; subst hres
      exact zw_iret (v := 0) (ty := .boolean) hx hb hr hlk rfl hw zd_X4_hasLine_18 (Nat.le_refl 0) (Nat.le_refl 0)
    · replace hf := zo_f c6 hf
      refine lv_iconst (v := 1) hx hb zd_X4_hasLine_13 (by decide) ?_
      refine lv_goto (tgt := 18) hx hb zd_X4_hasLine_14 (by decide) ?_
      have hres := Option.some.inj hf; subst hres
      exact zw_iret (v := 1) (ty := .boolean) hx hb hr hlk rfl hw zd_X4_hasLine_18 (Nat.le_refl 0) (Nat.le_refl 0)
def zf_X4_isBehind_L2 (h : zc_H) (q : Nat) (y1 : Option Nat) : Nat → Option Nat → Option ((Unit) ⊕ (Unit))
  | 0, _ => none
  | n + 1, y2 =>
    if y2 = none then
      some (.inl ())
    else
    if y2 = y1 then
      some (.inr ())
    else
    y2.bind fun a3 =>
    (zf_gr h a3 4 1).bind fun v4 =>
    zf_X4_isBehind_L2 h q y1 n v4
def zf_X4_isBehind (h : zc_H) (q : Nat) (x1 : Option Nat) : Option (Int32) :=
  if ¬ zf_is h q 4 = true then none else
  (zf_X4_isBehind_L2 h q x1 2000 (some q)).bind fun w6 =>
  Sum.elim (fun t7 =>
    some 0
    ) (fun t8 =>
    some 1
    ) w6
abbrev zr_X4_isBehind : Room := { frames := 0, cells := 0, slots := 0, locals := 0 }
theorem zi_X4_isBehind {h : zc_H} {q : Nat} {x1 : Option Nat} {res : Int32} (hf : zf_X4_isBehind h q x1 = some res) : zf_is h q 4 = true := Decidable.not_not.mp (zo_n hf).1
set_option maxHeartbeats 4000000 in
set_option maxRecDepth 20000 in
theorem zt_X4_isBehind (l : Launch) (g : zc_G) (h : zc_H) (q : Nat) (x1 : Option Nat) (res : Int32) (hf : zf_X4_isBehind h q x1 = some res) : zc_M l g yX4_isBehind cX4_isBehind 3 (some .boolean) zr_X4_isBehind h [va_rf ((some q)), va_rf (x1)] h (some (.int (res))) := by
  refine zc_M.of (by decide) (by simp [lg_sl, zv_cat, zv_ci, zv_cj]) ?_
  intro p e s m below meth c ls S hK hw hr hlk hnm hl
  replace S : CallFix p m c cX4_isBehind 3 s [va_rf ((some q)), va_rf (x1)].toArray (zc_ws yX4_isBehind cX4_isBehind 3 (some .boolean)) RX4 := S
  have hx := S.1
  have hb := S.2.1
  replace hl : lv_has ls 3 [(0, va_rf ((some q))), (1, va_rf (x1))] := by simpa [lv_args, zv_cat, zv_ci, zv_cj] using hl
  generalize s.heap = H at hw ⊢
  obtain ⟨locs, hlocs⟩ : ∃ L : List Loc, L = [] := ⟨_, rfl⟩
  rw [← hlocs] at hw ⊢
  have L2 : ∀ (h : zc_H) (y1 : Option Nat) (n : Nat) (y2 : Option Nat) (w : (Unit) ⊕ (Unit)) (H : Heap) (locs : List Loc) (ls : Array Slot), zf_X4_isBehind_L2 h q y1 n y2 = some w → zc_W g h H locs → lv_has ls 3 [(1, va_rf (y1)), (2, va_rf (y2))] → (∀ (t : Unit) (H : Heap) (locs : List Loc) (ls : Array Slot), w = (.inl t) → zc_W g h H locs → lv_has ls 3 [] → W p l e zr_X4_isBehind s m [va_rf ((some q)), va_rf (x1)].toArray below meth c H locs 0 0 (zc_Q g below zr_X4_isBehind (some (.int (res))) h [va_rf ((some q)), va_rf (x1)] s) (F0 m 21 ls [])) → (∀ (t : Unit) (H : Heap) (locs : List Loc) (ls : Array Slot), w = (.inr t) → zc_W g h H locs → lv_has ls 3 [] → W p l e zr_X4_isBehind s m [va_rf ((some q)), va_rf (x1)].toArray below meth c H locs 0 0 (zc_Q g below zr_X4_isBehind (some (.int (res))) h [va_rf ((some q)), va_rf (x1)] s) (F0 m 11 ls [])) → W p l e zr_X4_isBehind s m [va_rf ((some q)), va_rf (x1)].toArray below meth c H locs 0 0 (zc_Q g below zr_X4_isBehind (some (.int (res))) h [va_rf ((some q)), va_rf (x1)] s) (F0 m 2 ls []) := by
    intro h y1 n
    induction n with
    | zero =>
      intro y2 w H locs ls hf
      cases hf
    | succ n ih =>
      intro y2 w H locs ls hf hw hl  kk1 kk2
      unfold zf_X4_isBehind_L2 at hf
      refine zl_aload_n hx hb zd_X4_isBehind_2 rfl (lv_at hl 1 rfl) ?_
      refine zl_ifnull (tgt := 21) hx hb zd_X4_isBehind_3 (by decide) (fun c1 => ?_) (fun c1 => ?_)
      · replace hf := zo_t c1 hf
        have hres := Option.some.inj hf; subst hres
        exact kk1 _ _ _ _ rfl hw (lv_sub hl [] rfl)
      · replace hf := zo_f c1 hf
        refine zl_aload_n hx hb zd_X4_isBehind_6 rfl (lv_at hl 1 rfl) ?_
        refine zl_aload_n hx hb zd_X4_isBehind_7 rfl (lv_at hl 0 rfl) ?_
        refine lv_acmp_ne (tgt := 13) hx hb zd_X4_isBehind_8 (by decide) (fun c2 => ?_) (fun c2 => ?_)
        · replace hf := zo_f c2 hf
          refine zl_aload_n hx hb zd_X4_isBehind_13 rfl (lv_at hl 1 rfl) ?_
          replace hf := zo_b hf; obtain ⟨a3, na3, hf⟩ := hf
          refine W.eq (g2 := F0 m 14 ls [va_rf ((some a3))]) (by rw [na3] <;> rfl) ?_
          replace hf := zo_b hf; obtain ⟨v4, ev4, hf⟩ := hf
          obtain ⟨u5, u5e, u5v⟩ := zo_b ev4
          obtain rfl := zv_r_e u5v
          refine zw_get S hK hw zk_4 (k := 1) (by decide) rfl zm_532 (Or.inl rfl) u5e zd_X4_isBehind_14 ?_
          refine zl_astore_n (i := 2) (lv' := [(2, va_rf (v4)), (1, va_rf (y1))]) hx hb zd_X4_isBehind_17 rfl hl (by decide) (by simp [List.filter, zv_cat, zv_ci, zv_cj]) (fun ls hl => ?_)
          refine lv_goto (tgt := 2) hx hb zd_X4_isBehind_18 (by decide) ?_
          exact ih v4 _ _ _ _ hf hw (lv_sub hl [1, 0] rfl) kk1 kk2
        · replace hf := zo_t c2 hf
          have hres := Option.some.inj hf; subst hres
          exact kk2 _ _ _ _ rfl hw (lv_sub hl [] rfl)
  unfold zf_X4_isBehind at hf
  obtain ⟨-, hf⟩ := zo_n hf
  refine zl_aload_n hx hb zd_X4_isBehind_0 rfl (lv_at hl 0 rfl) ?_
  refine zl_astore_n (i := 2) (lv' := [(2, va_rf ((some q))), (0, va_rf ((some q))), (1, va_rf (x1))]) hx hb zd_X4_isBehind_1 rfl hl (by decide) (by simp [List.filter, zv_cat, zv_ci, zv_cj]) (fun ls hl => ?_)
  replace hf := zo_b hf; obtain ⟨w6, w6e, hf⟩ := hf
  refine L2 h x1 2000 (some q) _ _ _ _ w6e hw (lv_sub hl [2, 0] rfl) ?_ ?_
  · intro t7 H locs ls exw6 hw hl
    rw [exw6] at hf
    simp only [Sum.elim_inl, Sum.elim_inr] at hf
    refine lv_iconst (v := 0) hx hb zd_X4_isBehind_21 (by decide) ?_
    have hres := Option.some.inj hf; subst hres
    exact zw_iret (v := 0) (ty := .boolean) hx hb hr hlk rfl hw zd_X4_isBehind_22 (Nat.le_refl 0) (Nat.le_refl 0)
  · intro t8 H locs ls exw6 hw hl
    rw [exw6] at hf
    simp only [Sum.elim_inl, Sum.elim_inr] at hf
    refine lv_iconst (v := 1) hx hb zd_X4_isBehind_11 (by decide) ?_
    have hres := Option.some.inj hf; subst hres
    exact zw_iret (v := 1) (ty := .boolean) hx hb hr hlk rfl hw zd_X4_isBehind_12 (Nat.le_refl 0) (Nat.le_refl 0)
def zf_X4_readyStep_L28 (q : Nat) (y1 : Option Nat) (y2 : Int32) : Nat → zc_H → Int32 → Option (zc_H)
  | 0, _, _ => none
  | n + 1, h, y3 =>
    (zf_gr h q 4 3).bind fun v11 =>
    v11.bind fun a13 =>
    (zf_len h a13).bind fun v14 =>
    if v14 ≤ y3 then
      some h
    else
    (zf_gr h q 4 3).bind fun v16 =>
    y1.bind fun a18 =>
    (zf_X1_placeOf h a18 y3).bind fun r19 =>
    v16.bind fun a20 =>
    (zf_si h a20 0 y3 r19).bind fun h21 =>
    zf_X4_readyStep_L28 q y1 y2 n h21 (y3 + 1)
def zf_X4_readyStep (h : zc_H) (q : Nat) (x1 : Option Nat) (x2 : Int32) : Option (zc_H) :=
  if ¬ zf_is h q 4 = true then none else
  (zf_gr h q 4 1).bind fun v1 =>
  if v1 = none then
    some h
  else
  (zf_gi h q 4 4).bind fun v4 =>
  if v4 = x2 then
    some h
  else
  (zf_gr h q 4 1).bind fun v7 =>
  x1.bind fun a9 =>
  (zf_X1_match h a9 v7 (some q) x2).bind fun r10 =>
  (zf_X4_readyStep_L28 q x1 x2 2000 r10 0).bind fun w22 =>
  (zf_p w22 q 4 4 (.int (x2))).bind fun h23 =>
  some h23
abbrev zr_X4_readyStep : Room := { frames := 4, cells := 0, slots := 0, locals := 100 }
theorem zi_X4_readyStep {h : zc_H} {q : Nat} {x1 : Option Nat} {x2 : Int32} {res : zc_H} (hf : zf_X4_readyStep h q x1 x2 = some res) : zf_is h q 4 = true := Decidable.not_not.mp (zo_n hf).1
set_option maxHeartbeats 4000000 in
set_option maxRecDepth 20000 in
theorem zt_X4_readyStep (l : Launch) (g : zc_G) (h : zc_H) (q : Nat) (x1 : Option Nat) (x2 : Int32) (res : zc_H) (hf : zf_X4_readyStep h q x1 x2 = some res) : zc_M l g yX4_readyStep cX4_readyStep 4 none zr_X4_readyStep h [va_rf ((some q)), va_rf (x1), .int (x2)] res none := by
  refine zc_M.of (by decide) (by simp [lg_sl, zv_cat, zv_ci, zv_cj]) ?_
  intro p e s m below meth c ls S hK hw hr hlk hnm hl
  replace S : CallFix p m c cX4_readyStep 4 s [va_rf ((some q)), va_rf (x1), .int (x2)].toArray (zc_ws yX4_readyStep cX4_readyStep 4 none) RX4 := S
  have hx := S.1
  have hb := S.2.1
  replace hl : lv_has ls 4 [(0, va_rf ((some q))), (1, va_rf (x1)), (2, .int (x2))] := by simpa [lv_args, zv_cat, zv_ci, zv_cj] using hl
  generalize s.heap = H at hw ⊢
  obtain ⟨locs, hlocs⟩ : ∃ L : List Loc, L = [] := ⟨_, rfl⟩
  rw [← hlocs] at hw ⊢
  have L28 : ∀ (y1 : Option Nat) (y2 : Int32) (n : Nat) (h : zc_H) (y3 : Int32) (w : zc_H) (H : Heap) (locs : List Loc) (ls : Array Slot), zf_X4_readyStep_L28 q y1 y2 n h y3 = some w → zc_W g h H locs → lv_has ls 4 [(0, va_rf ((some q))), (1, va_rf (y1)), (2, .int (y2)), (3, .int (y3))] → (∀ (H : Heap) (locs : List Loc) (ls : Array Slot), zc_W g w H locs → lv_has ls 4 [(0, va_rf ((some q))), (2, .int (y2))] → W p l e zr_X4_readyStep s m [va_rf ((some q)), va_rf (x1), .int (x2)].toArray below meth c H locs 0 0 (zc_Q g below zr_X4_readyStep none res [va_rf ((some q)), va_rf (x1), .int (x2)] s) (F0 m 54 ls [])) → W p l e zr_X4_readyStep s m [va_rf ((some q)), va_rf (x1), .int (x2)].toArray below meth c H locs 0 0 (zc_Q g below zr_X4_readyStep none res [va_rf ((some q)), va_rf (x1), .int (x2)] s) (F0 m 28 ls []) := by
    intro y1 y2 n
    induction n with
    | zero =>
      intro h y3 w H locs ls hf
      cases hf
    | succ n ih =>
      intro h y3 w H locs ls hf hw hl  kk
      unfold zf_X4_readyStep_L28 at hf
      refine lv_iload_n hx hb zd_X4_readyStep_28 rfl (lv_at hl 3 rfl) ?_
      refine zl_aload_n hx hb zd_X4_readyStep_29 rfl (lv_at hl 0 rfl) ?_
      replace hf := zo_b hf; obtain ⟨v11, ev11, hf⟩ := hf
      obtain ⟨u12, u12e, u12v⟩ := zo_b ev11
      obtain rfl := zv_r_e u12v
      refine zw_get S hK hw zk_4 (k := 3) (by decide) rfl zm_536 (Or.inl rfl) u12e zd_X4_readyStep_30 ?_
      replace hf := zo_b hf; obtain ⟨a13, na13, hf⟩ := hf
      refine W.eq (g2 := F0 m 33 ls [va_rf ((some a13)), .int (y3)]) (by rw [na13] <;> rfl) ?_
      replace hf := zo_b hf; obtain ⟨v14, ev14, hf⟩ := hf
      refine zw_alen S hK hw ev14 zd_X4_readyStep_33 ?_
      refine lv_icmp_ge (tgt := 54) hx hb zd_X4_readyStep_34 (by decide) (fun c15 => ?_) (fun c15 => ?_)
      · replace hf := zo_t c15 hf
        have hres := Option.some.inj hf; subst hres
        exact kk _ _ _ hw (lv_sub hl [0, 2] rfl)
      · replace hf := zo_f c15 hf
        refine zl_aload_n hx hb zd_X4_readyStep_37 rfl (lv_at hl 0 rfl) ?_
        replace hf := zo_b hf; obtain ⟨v16, ev16, hf⟩ := hf
        obtain ⟨u17, u17e, u17v⟩ := zo_b ev16
        obtain rfl := zv_r_e u17v
        refine zw_get S hK hw zk_4 (k := 3) (by decide) rfl zm_536 (Or.inl rfl) u17e zd_X4_readyStep_38 ?_
        refine lv_iload_n hx hb zd_X4_readyStep_41 rfl (lv_at hl 3 rfl) ?_
        refine zl_aload_n hx hb zd_X4_readyStep_42 rfl (lv_at hl 1 rfl) ?_
        refine lv_iload_n hx hb zd_X4_readyStep_43 rfl (lv_at hl 3 rfl) ?_
        replace hf := zo_b hf; obtain ⟨a18, na18, hf⟩ := hf
        refine W.eq (g2 := F0 m 44 ls [.int (y3), va_rf ((some a18)), .int (y3), va_rf (v16)]) (by rw [na18] <;> rfl) ?_
        replace hf := zo_b hf; obtain ⟨r19, er19, hf⟩ := hf
        refine zw_callV (n := 1) (ci := 1) (q := zc_cl[1]) (As := [.int (y3)]) (rest := [.int (y3), va_rf (v16)]) S hK hw (zt_X1_placeOf l g h a18 y3 _ er19) zm_650 zm_651 zm_652 zq_X1_placeOf zm_74 (by decide +kernel) ⟨Nat.le_of_ble_eq_true rfl, Nat.le_of_ble_eq_true rfl⟩ rfl rfl rfl (zi_X1_placeOf er19) hl.1 rfl (by simp [zv_cat, zv_ci, zv_cj]) zd_X4_readyStep_44 ⟨(Nat.le_refl 0), (Nat.le_refl 0)⟩ (fun H locs hw => ?_)
        replace hw : zc_W g h H locs := hw
        replace hf := zo_b hf; obtain ⟨a20, na20, hf⟩ := hf
        refine W.eq (g2 := F0 m 47 ls [.int (r19), .int (y3), va_rf ((some a20))]) (by rw [na20] <;> rfl) ?_
        replace hf := zo_b hf; obtain ⟨h21, eh21, hf⟩ := hf
        refine zw_iast S hK hw eh21 zd_X4_readyStep_47 (fun H locs hw => ?_)
        refine lv_iinc (i := 3) (v := (y3 + 1)) (lv' := [(3, .int ((y3 + 1))), (0, va_rf ((some q))), (1, va_rf (y1)), (2, .int (y2))]) hx hb zd_X4_readyStep_48 hl (k := 3) rfl (congrArg (_ + ·) (by decide)) (by decide) rfl (fun ls hl => ?_)
        refine lv_goto (tgt := 28) hx hb zd_X4_readyStep_51 (by decide) ?_
        exact ih h21 (y3 + 1) _ _ _ _ hf hw (lv_sub hl [1, 2, 3, 0] rfl) kk
  unfold zf_X4_readyStep at hf
  obtain ⟨-, hf⟩ := zo_n hf
  refine zl_aload_n hx hb zd_X4_readyStep_0 rfl (lv_at hl 0 rfl) ?_
  replace hf := zo_b hf; obtain ⟨v1, ev1, hf⟩ := hf
  obtain ⟨u2, u2e, u2v⟩ := zo_b ev1
  obtain rfl := zv_r_e u2v
  refine zw_get S hK hw zk_4 (k := 1) (by decide) rfl zm_532 (Or.inl rfl) u2e zd_X4_readyStep_1 ?_
  refine zl_ifnull (tgt := 15) hx hb zd_X4_readyStep_4 (by decide) (fun c3 => ?_) (fun c3 => ?_)
  · replace hf := zo_t c3 hf
    have hres := Option.some.inj hf; subst hres
    exact zw_vret hx hb hr hlk hw zd_X4_readyStep_15 (Nat.le_refl 0) (Nat.le_refl 0)
  · replace hf := zo_f c3 hf
    refine zl_aload_n hx hb zd_X4_readyStep_7 rfl (lv_at hl 0 rfl) ?_
    replace hf := zo_b hf; obtain ⟨v4, ev4, hf⟩ := hf
    obtain ⟨u5, u5e, u5v⟩ := zo_b ev4
    obtain rfl := zv_i_e u5v
    refine zw_get S hK hw zk_4 (k := 4) (by decide) rfl zm_537 (Or.inl rfl) u5e zd_X4_readyStep_8 ?_
    refine lv_iload_n hx hb zd_X4_readyStep_11 rfl (lv_at hl 2 rfl) ?_
    refine lv_icmp_ne (tgt := 16) hx hb zd_X4_readyStep_12 (by decide) (fun c6 => ?_) (fun c6 => ?_)
    · replace hf := zo_f c6 hf
      refine zl_aload_n hx hb zd_X4_readyStep_16 rfl (lv_at hl 1 rfl) ?_
      refine zl_aload_n hx hb zd_X4_readyStep_17 rfl (lv_at hl 0 rfl) ?_
      replace hf := zo_b hf; obtain ⟨v7, ev7, hf⟩ := hf
      obtain ⟨u8, u8e, u8v⟩ := zo_b ev7
      obtain rfl := zv_r_e u8v
      refine zw_get S hK hw zk_4 (k := 1) (by decide) rfl zm_532 (Or.inl rfl) u8e zd_X4_readyStep_18 ?_
      refine zl_aload_n hx hb zd_X4_readyStep_21 rfl (lv_at hl 0 rfl) ?_
      refine lv_iload_n hx hb zd_X4_readyStep_22 rfl (lv_at hl 2 rfl) ?_
      replace hf := zo_b hf; obtain ⟨a9, na9, hf⟩ := hf
      refine W.eq (g2 := F0 m 23 ls [.int (x2), va_rf ((some q)), va_rf (v7), va_rf ((some a9))]) (by rw [na9] <;> rfl) ?_
      replace hf := zo_b hf; obtain ⟨r10, er10, hf⟩ := hf
      refine zw_callV (n := 3) (ci := 1) (q := zc_cl[1]) (As := [va_rf (v7), va_rf ((some q)), .int (x2)]) (rest := []) S hK hw (zt_X1_match l g h a9 v7 (some q) x2 _ er10) zm_606 zm_607 zm_608 zq_X1_match zm_74 (by decide +kernel) ⟨Nat.le_of_ble_eq_true rfl, Nat.le_of_ble_eq_true rfl⟩ rfl rfl rfl (zi_X1_match er10) hl.1 rfl (by simp [zv_cat, zv_ci, zv_cj]) zd_X4_readyStep_23 ⟨(Nat.le_refl 0), (Nat.le_refl 0)⟩ (fun H locs hw => ?_)
      replace hw : zc_W g r10 H locs := hw
      refine lv_iconst (v := 0) hx hb zd_X4_readyStep_26 (by decide) ?_
      refine lv_istore_n (i := 3) (lv' := [(3, .int (0)), (0, va_rf ((some q))), (1, va_rf (x1)), (2, .int (x2))]) hx hb zd_X4_readyStep_27 rfl hl (by decide) rfl (fun ls hl => ?_)
      replace hf := zo_b hf; obtain ⟨w22, w22e, hf⟩ := hf
      refine L28 x1 x2 2000 r10 0 _ _ _ _ w22e hw (lv_sub hl [1, 2, 3, 0] rfl) (fun H locs ls hw hl => ?_)
      refine zl_aload_n hx hb zd_X4_readyStep_54 rfl (lv_at hl 0 rfl) ?_
      refine lv_iload_n hx hb zd_X4_readyStep_55 rfl (lv_at hl 1 rfl) ?_
      replace hf := zo_b hf; obtain ⟨h23, eh23, hf⟩ := hf
      refine zw_put S hK hw zk_4 (k := 4) (by decide) rfl zm_537 (Or.inl rfl) eh23 (ty := .int) (by decide +kernel) rfl rfl zd_X4_readyStep_56 (fun H locs hw => ?_)
      have hres := Option.some.inj hf; subst hres
      exact zw_vret hx hb hr hlk hw zd_X4_readyStep_59 (Nat.le_refl 0) (Nat.le_refl 0)
    · replace hf := zo_t c6 hf
      have hres := Option.some.inj hf; subst hres
      exact zw_vret hx hb hr hlk hw zd_X4_readyStep_15 (Nat.le_refl 0) (Nat.le_refl 0)
def zf_X4_sourceOf_L2 (h : zc_H) (q : Nat) (y1 : Int32) : Nat → Int32 → Option ((Unit) ⊕ (Int32))
  | 0, _ => none
  | n + 1, y2 =>
    (zf_gr h q 4 3).bind fun v1 =>
    v1.bind fun a3 =>
    (zf_len h a3).bind fun v4 =>
    if v4 ≤ y2 then
      some (.inl ())
    else
    (zf_gr h q 4 3).bind fun v6 =>
    v6.bind fun a8 =>
    (zf_ai h a8 0 y2).bind fun v9 =>
    if v9 = y1 then
      some (.inr y2)
    else
    zf_X4_sourceOf_L2 h q y1 n (y2 + 1)
def zf_X4_sourceOf (h : zc_H) (q : Nat) (x1 : Int32) : Option (Int32) :=
  if ¬ zf_is h q 4 = true then none else
  (zf_X4_sourceOf_L2 h q x1 2000 0).bind fun w11 =>
  Sum.elim (fun t12 =>
    some (-1)
    ) (fun t13 =>
    some t13
    ) w11
abbrev zr_X4_sourceOf : Room := { frames := 0, cells := 0, slots := 0, locals := 0 }
theorem zi_X4_sourceOf {h : zc_H} {q : Nat} {x1 : Int32} {res : Int32} (hf : zf_X4_sourceOf h q x1 = some res) : zf_is h q 4 = true := Decidable.not_not.mp (zo_n hf).1
set_option maxHeartbeats 4000000 in
set_option maxRecDepth 20000 in
theorem zt_X4_sourceOf (l : Launch) (g : zc_G) (h : zc_H) (q : Nat) (x1 : Int32) (res : Int32) (hf : zf_X4_sourceOf h q x1 = some res) : zc_M l g yX4_sourceOf cX4_sourceOf 3 (some .int) zr_X4_sourceOf h [va_rf ((some q)), .int (x1)] h (some (.int (res))) := by
  refine zc_M.of (by decide) (by simp [lg_sl, zv_cat, zv_ci, zv_cj]) ?_
  intro p e s m below meth c ls S hK hw hr hlk hnm hl
  replace S : CallFix p m c cX4_sourceOf 3 s [va_rf ((some q)), .int (x1)].toArray (zc_ws yX4_sourceOf cX4_sourceOf 3 (some .int)) RX4 := S
  have hx := S.1
  have hb := S.2.1
  replace hl : lv_has ls 3 [(0, va_rf ((some q))), (1, .int (x1))] := by simpa [lv_args, zv_cat, zv_ci, zv_cj] using hl
  generalize s.heap = H at hw ⊢
  obtain ⟨locs, hlocs⟩ : ∃ L : List Loc, L = [] := ⟨_, rfl⟩
  rw [← hlocs] at hw ⊢
  have L2 : ∀ (h : zc_H) (y1 : Int32) (n : Nat) (y2 : Int32) (w : (Unit) ⊕ (Int32)) (H : Heap) (locs : List Loc) (ls : Array Slot), zf_X4_sourceOf_L2 h q y1 n y2 = some w → zc_W g h H locs → lv_has ls 3 [(0, va_rf ((some q))), (1, .int (y1)), (2, .int (y2))] → (∀ (t : Unit) (H : Heap) (locs : List Loc) (ls : Array Slot), w = (.inl t) → zc_W g h H locs → lv_has ls 3 [] → W p l e zr_X4_sourceOf s m [va_rf ((some q)), .int (x1)].toArray below meth c H locs 0 0 (zc_Q g below zr_X4_sourceOf (some (.int (res))) h [va_rf ((some q)), .int (x1)] s) (F0 m 29 ls [])) → (∀ (t : Int32) (H : Heap) (locs : List Loc) (ls : Array Slot), w = (.inr t) → zc_W g h H locs → lv_has ls 3 [(2, .int (t))] → W p l e zr_X4_sourceOf s m [va_rf ((some q)), .int (x1)].toArray below meth c H locs 0 0 (zc_Q g below zr_X4_sourceOf (some (.int (res))) h [va_rf ((some q)), .int (x1)] s) (F0 m 21 ls [])) → W p l e zr_X4_sourceOf s m [va_rf ((some q)), .int (x1)].toArray below meth c H locs 0 0 (zc_Q g below zr_X4_sourceOf (some (.int (res))) h [va_rf ((some q)), .int (x1)] s) (F0 m 2 ls []) := by
    intro h y1 n
    induction n with
    | zero =>
      intro y2 w H locs ls hf
      cases hf
    | succ n ih =>
      intro y2 w H locs ls hf hw hl  kk1 kk2
      unfold zf_X4_sourceOf_L2 at hf
      refine lv_iload_n hx hb zd_X4_sourceOf_2 rfl (lv_at hl 2 rfl) ?_
      refine zl_aload_n hx hb zd_X4_sourceOf_3 rfl (lv_at hl 0 rfl) ?_
      replace hf := zo_b hf; obtain ⟨v1, ev1, hf⟩ := hf
      obtain ⟨u2, u2e, u2v⟩ := zo_b ev1
      obtain rfl := zv_r_e u2v
      refine zw_get S hK hw zk_4 (k := 3) (by decide) rfl zm_536 (Or.inl rfl) u2e zd_X4_sourceOf_4 ?_
      replace hf := zo_b hf; obtain ⟨a3, na3, hf⟩ := hf
      refine W.eq (g2 := F0 m 7 ls [va_rf ((some a3)), .int (y2)]) (by rw [na3] <;> rfl) ?_
      replace hf := zo_b hf; obtain ⟨v4, ev4, hf⟩ := hf
      refine zw_alen S hK hw ev4 zd_X4_sourceOf_7 ?_
      refine lv_icmp_ge (tgt := 29) hx hb zd_X4_sourceOf_8 (by decide) (fun c5 => ?_) (fun c5 => ?_)
      · replace hf := zo_t c5 hf
        have hres := Option.some.inj hf; subst hres
        exact kk1 _ _ _ _ rfl hw (lv_sub hl [] rfl)
      · replace hf := zo_f c5 hf
        refine zl_aload_n hx hb zd_X4_sourceOf_11 rfl (lv_at hl 0 rfl) ?_
        replace hf := zo_b hf; obtain ⟨v6, ev6, hf⟩ := hf
        obtain ⟨u7, u7e, u7v⟩ := zo_b ev6
        obtain rfl := zv_r_e u7v
        refine zw_get S hK hw zk_4 (k := 3) (by decide) rfl zm_536 (Or.inl rfl) u7e zd_X4_sourceOf_12 ?_
        refine lv_iload_n hx hb zd_X4_sourceOf_15 rfl (lv_at hl 2 rfl) ?_
        replace hf := zo_b hf; obtain ⟨a8, na8, hf⟩ := hf
        refine W.eq (g2 := F0 m 16 ls [.int (y2), va_rf ((some a8))]) (by rw [na8] <;> rfl) ?_
        replace hf := zo_b hf; obtain ⟨v9, ev9, hf⟩ := hf
        refine zw_iald S hK hw ev9 zd_X4_sourceOf_16 ?_
        refine lv_iload_n hx hb zd_X4_sourceOf_17 rfl (lv_at hl 1 rfl) ?_
        refine lv_icmp_ne (tgt := 23) hx hb zd_X4_sourceOf_18 (by decide) (fun c10 => ?_) (fun c10 => ?_)
        · replace hf := zo_f c10 hf
          refine lv_iinc (i := 2) (v := (y2 + 1)) (lv' := [(2, .int ((y2 + 1))), (0, va_rf ((some q))), (1, .int (y1))]) hx hb zd_X4_sourceOf_23 hl (k := 2) rfl (congrArg (_ + ·) (by decide)) (by decide) rfl (fun ls hl => ?_)
          refine lv_goto (tgt := 2) hx hb zd_X4_sourceOf_26 (by decide) ?_
          exact ih (y2 + 1) _ _ _ _ hf hw (lv_sub hl [1, 2, 0] rfl) kk1 kk2
        · replace hf := zo_t c10 hf
          have hres := Option.some.inj hf; subst hres
          exact kk2 _ _ _ _ rfl hw (lv_sub hl [2] rfl)
  unfold zf_X4_sourceOf at hf
  obtain ⟨-, hf⟩ := zo_n hf
  refine lv_iconst (v := 0) hx hb zd_X4_sourceOf_0 (by decide) ?_
  refine lv_istore_n (i := 2) (lv' := [(2, .int (0)), (0, va_rf ((some q))), (1, .int (x1))]) hx hb zd_X4_sourceOf_1 rfl hl (by decide) rfl (fun ls hl => ?_)
  replace hf := zo_b hf; obtain ⟨w11, w11e, hf⟩ := hf
  refine L2 h x1 2000 0 _ _ _ _ w11e hw (lv_sub hl [1, 2, 0] rfl) ?_ ?_
  · intro t12 H locs ls exw11 hw hl
    rw [exw11] at hf
    simp only [Sum.elim_inl, Sum.elim_inr] at hf
    refine lv_iconst (v := (-1)) hx hb zd_X4_sourceOf_29 (by decide) ?_
    have hres := Option.some.inj hf; subst hres
    exact zw_iret (v := (-1)) (ty := .int) hx hb hr hlk rfl hw zd_X4_sourceOf_30 (Nat.le_refl 0) (Nat.le_refl 0)
  · intro t13 H locs ls exw11 hw hl
    rw [exw11] at hf
    simp only [Sum.elim_inl, Sum.elim_inr] at hf
    refine lv_iload_n hx hb zd_X4_sourceOf_21 rfl (lv_at hl 0 rfl) ?_
    have hres := Option.some.inj hf; subst hres
    exact zw_iret (v := t13) (ty := .int) hx hb hr hlk rfl hw zd_X4_sourceOf_22 (Nat.le_refl 0) (Nat.le_refl 0)
def zf_X5_init (h : zc_H) (q : Nat) : Option (zc_H) :=
  if ¬ zf_is h q 5 = true then none else
  (zf_p h q 5 0 (.int ((-1)))).bind fun h1 =>
  (some (zf_new h1 (.inl (1, 160, .inr (.inl (fun _ => 0)))))).bind fun h2 =>
  (zf_p h2 q 5 2 (va_rf ((some h1.2.1)))).bind fun h3 =>
  some h3
abbrev zr_X5_init : Room := { frames := 1, cells := 1, slots := 160, locals := 40 }
theorem zi_X5_init {h : zc_H} {q : Nat} {res : zc_H} (hf : zf_X5_init h q = some res) : zf_is h q 5 = true := Decidable.not_not.mp (zo_n hf).1
set_option maxHeartbeats 4000000 in
set_option maxRecDepth 20000 in
theorem zt_X5_init (l : Launch) (g : zc_G) (h : zc_H) (q : Nat) (res : zc_H) (hf : zf_X5_init h q = some res) : zc_M l g yX5_init cX5_init 1 none zr_X5_init h [va_rf ((some q))] res none := by
  refine zc_M.of (by decide) (by simp [lg_sl, zv_cat, zv_ci, zv_cj]) ?_
  intro p e s m below meth c ls S hK hw hr hlk hnm hl
  replace S : CallFix p m c cX5_init 1 s [va_rf ((some q))].toArray (zc_ws yX5_init cX5_init 1 none) RX5 := S
  have hx := S.1
  have hb := S.2.1
  replace hl : lv_has ls 1 [(0, va_rf ((some q)))] := by simpa [lv_args, zv_cat, zv_ci, zv_cj] using hl
  generalize s.heap = H at hw ⊢
  obtain ⟨locs, hlocs⟩ : ∃ L : List Loc, L = [] := ⟨_, rfl⟩
  rw [← hlocs] at hw ⊢
  unfold zf_X5_init at hf
  obtain ⟨-, hf⟩ := zo_n hf
  refine zl_aload_n hx hb zd_X5_init_0 rfl (lv_at hl 0 rfl) ?_
  refine W.objInit hx hb S.2.2.2.1 (S.2.2.2.2 _ (List.mem_cons_of_mem _ zm_293)) (S.2.2.2.2 _ (List.mem_cons_of_mem _ zm_95)) (S.2.2.2.2 _ (List.mem_cons_of_mem _ zm_96)) rfl (by rw [S.2.2.1]; exact hl.1) rfl zd_X5_init_1 (Nat.le_of_ble_eq_true rfl) (by simp [F0, JFrame.monitorRoom, zv_cat, zv_ci, zv_cj, zr_X5_init]) ?_
  refine W.eq (g2 := F0 m 4 ls []) rfl ?_
  refine zl_aload_n hx hb zd_X5_init_4 rfl (lv_at hl 0 rfl) ?_
  refine lv_iconst (v := (-1)) hx hb zd_X5_init_5 (by decide) ?_
  replace hf := zo_b hf; obtain ⟨h1, eh1, hf⟩ := hf
  refine zw_put S hK hw zk_5 (k := 0) (by decide) rfl zm_294 (Or.inl rfl) eh1 (ty := .int) (by decide +kernel) rfl rfl zd_X5_init_6 (fun H locs hw => ?_)
  refine zl_aload_n hx hb zd_X5_init_9 rfl (lv_at hl 0 rfl) ?_
  refine lv_sipush (v := 160) hx hb zd_X5_init_10 (by decide) ?_
  replace hf := zo_b hf; obtain ⟨h2, eh2, hf⟩ := hf
  refine zw_newa (atype := .long) (t := 1) (a0 := (160, .inr (.inl (fun _ => 0)))) (ty := .long) (N := 160) (K := 160) S hK hw zm_176 rfl rfl (Nat.le_of_ble_eq_true rfl) (fun h => h) (fun _ => rfl) (by decide) (by decide) (Nat.le_refl _) (by decide) (by show _ ≤ (1 : Nat); omega) (by show _ ≤ (160 : Nat); omega) zd_X5_init_13 (fun H hw => ?_)
  replace hw : zc_W g h2 H locs := (Option.some.inj eh2) ▸ hw
  replace hf := zo_b hf; obtain ⟨h3, eh3, hf⟩ := hf
  refine zw_putF S hK hw zk_5 (k := 2) (by decide) rfl zm_299 hnm eh3 (ty := (.array .long)) (by decide +kernel) (zv_rnA _ _) (zv_rfA _ _) zd_X5_init_15 (fun H locs hw => ?_)
  have hres := Option.some.inj hf; subst hres
  exact zw_vret hx hb hr hlk hw zd_X5_init_18 (by show _ ≤ (1 : Nat); omega) (by show _ ≤ (160 : Nat); omega)
def zf_X5_hasRemark (h : zc_H) (q : Nat) : Option (Int32) :=
  if ¬ zf_is h q 5 = true then none else
  (zf_gi h q 5 0).bind fun v1 =>
  if v1 = (-1) then
    some 0
  else
  (zf_gi h q 5 0).bind fun v4 =>
  if 100 ≤ v4 then
    some 0
  else
  some 1
abbrev zr_X5_hasRemark : Room := { frames := 0, cells := 0, slots := 0, locals := 0 }
theorem zi_X5_hasRemark {h : zc_H} {q : Nat} {res : Int32} (hf : zf_X5_hasRemark h q = some res) : zf_is h q 5 = true := Decidable.not_not.mp (zo_n hf).1
set_option maxHeartbeats 4000000 in
set_option maxRecDepth 20000 in
theorem zt_X5_hasRemark (l : Launch) (g : zc_G) (h : zc_H) (q : Nat) (res : Int32) (hf : zf_X5_hasRemark h q = some res) : zc_M l g yX5_hasRemark cX5_hasRemark 1 (some .boolean) zr_X5_hasRemark h [va_rf ((some q))] h (some (.int (res))) := by
  refine zc_M.of (by decide) (by simp [lg_sl, zv_cat, zv_ci, zv_cj]) ?_
  intro p e s m below meth c ls S hK hw hr hlk hnm hl
  replace S : CallFix p m c cX5_hasRemark 1 s [va_rf ((some q))].toArray (zc_ws yX5_hasRemark cX5_hasRemark 1 (some .boolean)) RX5 := S
  have hx := S.1
  have hb := S.2.1
  replace hl : lv_has ls 1 [(0, va_rf ((some q)))] := by simpa [lv_args, zv_cat, zv_ci, zv_cj] using hl
  generalize s.heap = H at hw ⊢
  obtain ⟨locs, hlocs⟩ : ∃ L : List Loc, L = [] := ⟨_, rfl⟩
  rw [← hlocs] at hw ⊢
  unfold zf_X5_hasRemark at hf
  obtain ⟨-, hf⟩ := zo_n hf
  refine zl_aload_n hx hb zd_X5_hasRemark_0 rfl (lv_at hl 0 rfl) ?_
  replace hf := zo_b hf; obtain ⟨v1, ev1, hf⟩ := hf
  obtain ⟨u2, u2e, u2v⟩ := zo_b ev1
  obtain rfl := zv_i_e u2v
  refine zw_get S hK hw zk_5 (k := 0) (by decide) rfl zm_294 (Or.inl rfl) u2e zd_X5_hasRemark_1 ?_
  refine lv_iconst (v := (-1)) hx hb zd_X5_hasRemark_4 (by decide) ?_
  refine lv_icmp_eq (tgt := 21) hx hb zd_X5_hasRemark_5 (by decide) (fun c3 => ?_) (fun c3 => ?_)
  · replace hf := zo_t c3 hf
    refine lv_iconst (v := 0) hx hb zd_X5_hasRemark_21 (by decide) ?_
    have hres := Option.some.inj hf; subst hres
    exact zw_iret (v := 0) (ty := .boolean) hx hb hr hlk rfl hw zd_X5_hasRemark_22 (Nat.le_refl 0) (Nat.le_refl 0)
  · replace hf := zo_f c3 hf
    refine zl_aload_n hx hb zd_X5_hasRemark_8 rfl (lv_at hl 0 rfl) ?_
    replace hf := zo_b hf; obtain ⟨v4, ev4, hf⟩ := hf
    obtain ⟨u5, u5e, u5v⟩ := zo_b ev4
    obtain rfl := zv_i_e u5v
    refine zw_get S hK hw zk_5 (k := 0) (by decide) rfl zm_294 (Or.inl rfl) u5e zd_X5_hasRemark_9 ?_
    refine lv_bipush (v := 100) hx hb zd_X5_hasRemark_12 (by decide) ?_
    refine lv_icmp_ge (tgt := 21) hx hb zd_X5_hasRemark_14 (by decide) (fun c6 => ?_) (fun c6 => ?_)
    · replace hf := zo_t c6 hf
      refine lv_iconst (v := 0) hx hb zd_X5_hasRemark_21 (by decide) ?_
      have hres := Option.some.inj hf; subst hres
      exact zw_iret (v := 0) (ty := .boolean) hx hb hr hlk rfl hw zd_X5_hasRemark_22 (Nat.le_refl 0) (Nat.le_refl 0)
    · replace hf := zo_f c6 hf
      refine lv_iconst (v := 1) hx hb zd_X5_hasRemark_17 (by decide) ?_
      refine lv_goto (tgt := 22) hx hb zd_X5_hasRemark_18 (by decide) ?_
      have hres := Option.some.inj hf; subst hres
      exact zw_iret (v := 1) (ty := .boolean) hx hb hr hlk rfl hw zd_X5_hasRemark_22 (Nat.le_refl 0) (Nat.le_refl 0)
def zf_X5_hold (h : zc_H) (q : Nat) (x1 : Int32) : Option (zc_H) :=
  if ¬ zf_is h q 5 = true then none else
  (zf_p h q 5 0 (.int (x1))).bind fun h1 =>
  some h1
abbrev zr_X5_hold : Room := { frames := 0, cells := 0, slots := 0, locals := 0 }
theorem zi_X5_hold {h : zc_H} {q : Nat} {x1 : Int32} {res : zc_H} (hf : zf_X5_hold h q x1 = some res) : zf_is h q 5 = true := Decidable.not_not.mp (zo_n hf).1
set_option maxHeartbeats 4000000 in
set_option maxRecDepth 20000 in
theorem zt_X5_hold (l : Launch) (g : zc_G) (h : zc_H) (q : Nat) (x1 : Int32) (res : zc_H) (hf : zf_X5_hold h q x1 = some res) : zc_M l g yX5_hold cX5_hold 2 none zr_X5_hold h [va_rf ((some q)), .int (x1)] res none := by
  refine zc_M.of (by decide) (by simp [lg_sl, zv_cat, zv_ci, zv_cj]) ?_
  intro p e s m below meth c ls S hK hw hr hlk hnm hl
  replace S : CallFix p m c cX5_hold 2 s [va_rf ((some q)), .int (x1)].toArray (zc_ws yX5_hold cX5_hold 2 none) RX5 := S
  have hx := S.1
  have hb := S.2.1
  replace hl : lv_has ls 2 [(0, va_rf ((some q))), (1, .int (x1))] := by simpa [lv_args, zv_cat, zv_ci, zv_cj] using hl
  generalize s.heap = H at hw ⊢
  obtain ⟨locs, hlocs⟩ : ∃ L : List Loc, L = [] := ⟨_, rfl⟩
  rw [← hlocs] at hw ⊢
  unfold zf_X5_hold at hf
  obtain ⟨-, hf⟩ := zo_n hf
  refine zl_aload_n hx hb zd_X5_hold_0 rfl (lv_at hl 0 rfl) ?_
  refine lv_iload_n hx hb zd_X5_hold_1 rfl (lv_at hl 1 rfl) ?_
  replace hf := zo_b hf; obtain ⟨h1, eh1, hf⟩ := hf
  refine zw_put S hK hw zk_5 (k := 0) (by decide) rfl zm_294 (Or.inl rfl) eh1 (ty := .int) (by decide +kernel) rfl rfl zd_X5_hold_2 (fun H locs hw => ?_)
  have hres := Option.some.inj hf; subst hres
  exact zw_vret hx hb hr hlk hw zd_X5_hold_5 (Nat.le_refl 0) (Nat.le_refl 0)
def zf_J7_fill_d0a16_L6 (y0 : Option Nat) (y1 : Int64) (y4 : Int32) : Nat → zc_H → Int32 → Option (zc_H)
  | 0, _, _ => none
  | n + 1, h, y3 =>
    if y4 ≤ y3 then
      some h
    else
    y0.bind fun a4 =>
    (zf_sj h a4 y3 y1).bind fun h5 =>
    zf_J7_fill_d0a16_L6 y0 y1 y4 n h5 (y3 + 1)
def zf_J7_fill_d0a16 (h : zc_H) (x0 : Option Nat) (x1 : Int64) : Option (zc_H) :=
  x0.bind fun a1 =>
  (zf_len h a1).bind fun v2 =>
  (zf_J7_fill_d0a16_L6 x0 x1 v2 2000 h 0).bind fun w6 =>
  some w6
abbrev zr_J7_fill_d0a16 : Room := { frames := 0, cells := 0, slots := 0, locals := 0 }
set_option maxHeartbeats 4000000 in
set_option maxRecDepth 20000 in
theorem zt_J7_fill_d0a16 (l : Launch) (g : zc_G) (h : zc_H) (x0 : Option Nat) (x1 : Int64) (res : zc_H) (hf : zf_J7_fill_d0a16 h x0 x1 = some res) : zc_M l g yJ7_fill_d0a16 cJ7_fill_d0a16 5 none zr_J7_fill_d0a16 h [va_rf (x0), .long (x1)] res none := by
  refine zc_M.of (by decide) (by simp [lg_sl, zv_cat, zv_ci, zv_cj]) ?_
  intro p e s m below meth c ls S hK hw hr hlk hnm hl
  replace S : CallFix p m c cJ7_fill_d0a16 5 s [va_rf (x0), .long (x1)].toArray (zc_ws yJ7_fill_d0a16 cJ7_fill_d0a16 5 none) RJ7 := S
  have hx := S.1
  have hb := S.2.1
  replace hl : lv_has ls 5 [(0, va_rf (x0)), (1, .long (x1))] := by simpa [lv_args, zv_cat, zv_ci, zv_cj] using hl
  generalize s.heap = H at hw ⊢
  obtain ⟨locs, hlocs⟩ : ∃ L : List Loc, L = [] := ⟨_, rfl⟩
  rw [← hlocs] at hw ⊢
  have L6 : ∀ (y0 : Option Nat) (y1 : Int64) (y4 : Int32) (n : Nat) (h : zc_H) (y3 : Int32) (w : zc_H) (H : Heap) (locs : List Loc) (ls : Array Slot), zf_J7_fill_d0a16_L6 y0 y1 y4 n h y3 = some w → zc_W g h H locs → lv_has ls 5 [(0, va_rf (y0)), (1, .long (y1)), (3, .int (y3)), (4, .int (y4))] → (∀ (H : Heap) (locs : List Loc) (ls : Array Slot), zc_W g w H locs → lv_has ls 5 [] → W p l e zr_J7_fill_d0a16 s m [va_rf (x0), .long (x1)].toArray below meth c H locs 0 0 (zc_Q g below zr_J7_fill_d0a16 none res [va_rf (x0), .long (x1)] s) (F0 m 22 ls [])) → W p l e zr_J7_fill_d0a16 s m [va_rf (x0), .long (x1)].toArray below meth c H locs 0 0 (zc_Q g below zr_J7_fill_d0a16 none res [va_rf (x0), .long (x1)] s) (F0 m 6 ls []) := by
    intro y0 y1 y4 n
    induction n with
    | zero =>
      intro h y3 w H locs ls hf
      cases hf
    | succ n ih =>
      intro h y3 w H locs ls hf hw hl  kk
      unfold zf_J7_fill_d0a16_L6 at hf
      refine lv_iload_n hx hb zd_J7_fill_d0a16_6 rfl (lv_at hl 2 rfl) ?_
      refine lv_iload hx hb zd_J7_fill_d0a16_7 (lv_at hl 3 rfl) ?_
      refine lv_icmp_ge (tgt := 22) hx hb zd_J7_fill_d0a16_9 (by decide) (fun c3 => ?_) (fun c3 => ?_)
      · replace hf := zo_t c3 hf
        have hres := Option.some.inj hf; subst hres
        exact kk _ _ _ hw (lv_sub hl [] rfl)
      · replace hf := zo_f c3 hf
        refine zl_aload_n hx hb zd_J7_fill_d0a16_12 rfl (lv_at hl 0 rfl) ?_
        refine lv_iload_n hx hb zd_J7_fill_d0a16_13 rfl (lv_at hl 2 rfl) ?_
        refine lv_lload_n hx hb zd_J7_fill_d0a16_14 rfl (lv_at hl 1 rfl) ?_
        replace hf := zo_b hf; obtain ⟨a4, na4, hf⟩ := hf
        refine W.eq (g2 := F0 m 15 ls [.long (y1), .int (y3), va_rf ((some a4))]) (by rw [na4] <;> rfl) ?_
        replace hf := zo_b hf; obtain ⟨h5, eh5, hf⟩ := hf
        refine zw_last S hK hw eh5 zd_J7_fill_d0a16_15 (fun H locs hw => ?_)
        refine lv_iinc (i := 3) (v := (y3 + 1)) (lv' := [(3, .int ((y3 + 1))), (0, va_rf (y0)), (1, .long (y1)), (4, .int (y4))]) hx hb zd_J7_fill_d0a16_16 hl (k := 2) rfl (congrArg (_ + ·) (by decide)) (by decide) rfl (fun ls hl => ?_)
        refine lv_goto (tgt := 6) hx hb zd_J7_fill_d0a16_19 (by decide) ?_
        exact ih h5 (y3 + 1) _ _ _ _ hf hw (lv_sub hl [1, 2, 0, 3] rfl) kk
  unfold zf_J7_fill_d0a16 at hf
  refine lv_iconst (v := 0) hx hb zd_J7_fill_d0a16_0 (by decide) ?_
  refine lv_istore_n (i := 3) (lv' := [(3, .int (0)), (0, va_rf (x0)), (1, .long (x1))]) hx hb zd_J7_fill_d0a16_1 rfl hl (by decide) rfl (fun ls hl => ?_)
  refine zl_aload_n hx hb zd_J7_fill_d0a16_2 rfl (lv_at hl 1 rfl) ?_
  replace hf := zo_b hf; obtain ⟨a1, na1, hf⟩ := hf
  refine W.eq (g2 := F0 m 3 ls [va_rf ((some a1))]) (by rw [na1] <;> rfl) ?_
  replace hf := zo_b hf; obtain ⟨v2, ev2, hf⟩ := hf
  refine zw_alen S hK hw ev2 zd_J7_fill_d0a16_3 ?_
  refine lv_istore (i := 4) (lv' := [(4, .int (v2)), (3, .int (0)), (0, va_rf (x0)), (1, .long (x1))]) hx hb zd_J7_fill_d0a16_4 hl (by decide) rfl (fun ls hl => ?_)
  replace hf := zo_b hf; obtain ⟨w6, w6e, hf⟩ := hf
  refine L6 x0 x1 v2 2000 h 0 _ _ _ _ w6e hw (lv_sub hl [2, 3, 1, 0] rfl) (fun H locs ls hw hl => ?_)
  have hres := Option.some.inj hf; subst hres
  exact zw_vret hx hb hr hlk hw zd_J7_fill_d0a16_22 (Nat.le_refl 0) (Nat.le_refl 0)
def zf_X5_holdRow (h : zc_H) (q : Nat) (x1 : Int32) (x2 : Int32) : Option (zc_H) :=
  if ¬ zf_is h q 5 = true then none else
  (zf_p h q 5 0 (.int ((100 + x1)))).bind fun h1 =>
  (zf_p h1 q 5 1 (.int (x2))).bind fun h2 =>
  (zf_gr h2 q 5 2).bind fun v3 =>
  (zf_J7_fill_d0a16 h2 v3 0).bind fun r5 =>
  some r5
abbrev zr_X5_holdRow : Room := { frames := 1, cells := 0, slots := 0, locals := 24 }
theorem zi_X5_holdRow {h : zc_H} {q : Nat} {x1 : Int32} {x2 : Int32} {res : zc_H} (hf : zf_X5_holdRow h q x1 x2 = some res) : zf_is h q 5 = true := Decidable.not_not.mp (zo_n hf).1
set_option maxHeartbeats 4000000 in
set_option maxRecDepth 20000 in
theorem zt_X5_holdRow (l : Launch) (g : zc_G) (h : zc_H) (q : Nat) (x1 : Int32) (x2 : Int32) (res : zc_H) (hf : zf_X5_holdRow h q x1 x2 = some res) : zc_M l g yX5_holdRow cX5_holdRow 3 none zr_X5_holdRow h [va_rf ((some q)), .int (x1), .int (x2)] res none := by
  refine zc_M.of (by decide) (by simp [lg_sl, zv_cat, zv_ci, zv_cj]) ?_
  intro p e s m below meth c ls S hK hw hr hlk hnm hl
  replace S : CallFix p m c cX5_holdRow 3 s [va_rf ((some q)), .int (x1), .int (x2)].toArray (zc_ws yX5_holdRow cX5_holdRow 3 none) RX5 := S
  have hx := S.1
  have hb := S.2.1
  replace hl : lv_has ls 3 [(0, va_rf ((some q))), (1, .int (x1)), (2, .int (x2))] := by simpa [lv_args, zv_cat, zv_ci, zv_cj] using hl
  generalize s.heap = H at hw ⊢
  obtain ⟨locs, hlocs⟩ : ∃ L : List Loc, L = [] := ⟨_, rfl⟩
  rw [← hlocs] at hw ⊢
  unfold zf_X5_holdRow at hf
  obtain ⟨-, hf⟩ := zo_n hf
  refine zl_aload_n hx hb zd_X5_holdRow_0 rfl (lv_at hl 0 rfl) ?_
  refine lv_bipush (v := 100) hx hb zd_X5_holdRow_1 (by decide) ?_
  refine lv_iload_n hx hb zd_X5_holdRow_3 rfl (lv_at hl 1 rfl) ?_
  refine lv_iadd hx hb zd_X5_holdRow_4 ?_
  replace hf := zo_b hf; obtain ⟨h1, eh1, hf⟩ := hf
  refine zw_put S hK hw zk_5 (k := 0) (by decide) rfl zm_294 (Or.inl rfl) eh1 (ty := .int) (by decide +kernel) rfl rfl zd_X5_holdRow_5 (fun H locs hw => ?_)
  refine zl_aload_n hx hb zd_X5_holdRow_8 rfl (lv_at hl 0 rfl) ?_
  refine lv_iload_n hx hb zd_X5_holdRow_9 rfl (lv_at hl 2 rfl) ?_
  replace hf := zo_b hf; obtain ⟨h2, eh2, hf⟩ := hf
  refine zw_put S hK hw zk_5 (k := 1) (by decide) rfl zm_296 (Or.inl rfl) eh2 (ty := .int) (by decide +kernel) rfl rfl zd_X5_holdRow_10 (fun H locs hw => ?_)
  refine zl_aload_n hx hb zd_X5_holdRow_13 rfl (lv_at hl 0 rfl) ?_
  replace hf := zo_b hf; obtain ⟨v3, ev3, hf⟩ := hf
  obtain ⟨u4, u4e, u4v⟩ := zo_b ev3
  obtain rfl := zv_r_e u4v
  refine zw_get S hK hw zk_5 (k := 2) (by decide) rfl zm_299 (Or.inl rfl) u4e zd_X5_holdRow_14 ?_
  refine lv_lconst (v := 0) hx hb zd_X5_holdRow_17 (by decide) ?_
  replace hf := zo_b hf; obtain ⟨r5, er5, hf⟩ := hf
  refine zw_callS (n := 2) (As := [va_rf (v3), .long (0)]) (rest := []) S hK hw (zt_J7_fill_d0a16 l g h2 v3 0 _ er5) zm_357 zm_358 zq_J7_fill_d0a16 zm_80 (by decide +kernel) ⟨Nat.le_of_ble_eq_true rfl, Nat.le_of_ble_eq_true rfl⟩ rfl hl.1 rfl (by simp [zv_cat, zv_ci, zv_cj]) zd_X5_holdRow_18 ⟨(Nat.le_refl 0), (Nat.le_refl 0)⟩ (fun H locs hw => ?_)
  replace hw : zc_W g r5 H locs := hw
  have hres := Option.some.inj hf; subst hres
  exact zw_vret hx hb hr hlk hw zd_X5_holdRow_21 (Nat.le_refl 0) (Nat.le_refl 0)
def zf_X5_hasStretch (h : zc_H) (q : Nat) (x1 : Int32) (x2 : Int32) : Option (Int32) :=
  if ¬ zf_is h q 5 = true then none else
  (zf_X5_hasRow h q).bind fun r1 =>
  if r1 = 0 then
    some 0
  else
  if x1 < 0 then
    some 0
  else
  if x2 < 0 then
    some 0
  else
  (zf_gi h q 5 1).bind fun v5 =>
  if (v5 - x1) < x2 then
    some 0
  else
  some 1
abbrev zr_X5_hasStretch : Room := { frames := 1, cells := 0, slots := 0, locals := 20 }
theorem zi_X5_hasStretch {h : zc_H} {q : Nat} {x1 : Int32} {x2 : Int32} {res : Int32} (hf : zf_X5_hasStretch h q x1 x2 = some res) : zf_is h q 5 = true := Decidable.not_not.mp (zo_n hf).1
set_option maxHeartbeats 4000000 in
set_option maxRecDepth 20000 in
theorem zt_X5_hasStretch (l : Launch) (g : zc_G) (h : zc_H) (q : Nat) (x1 : Int32) (x2 : Int32) (res : Int32) (hf : zf_X5_hasStretch h q x1 x2 = some res) : zc_M l g yX5_hasStretch cX5_hasStretch 3 (some .boolean) zr_X5_hasStretch h [va_rf ((some q)), .int (x1), .int (x2)] h (some (.int (res))) := by
  refine zc_M.of (by decide) (by simp [lg_sl, zv_cat, zv_ci, zv_cj]) ?_
  intro p e s m below meth c ls S hK hw hr hlk hnm hl
  replace S : CallFix p m c cX5_hasStretch 3 s [va_rf ((some q)), .int (x1), .int (x2)].toArray (zc_ws yX5_hasStretch cX5_hasStretch 3 (some .boolean)) RX5 := S
  have hx := S.1
  have hb := S.2.1
  replace hl : lv_has ls 3 [(0, va_rf ((some q))), (1, .int (x1)), (2, .int (x2))] := by simpa [lv_args, zv_cat, zv_ci, zv_cj] using hl
  generalize s.heap = H at hw ⊢
  obtain ⟨locs, hlocs⟩ : ∃ L : List Loc, L = [] := ⟨_, rfl⟩
  rw [← hlocs] at hw ⊢
  unfold zf_X5_hasStretch at hf
  obtain ⟨-, hf⟩ := zo_n hf
  refine zl_aload_n hx hb zd_X5_hasStretch_0 rfl (lv_at hl 0 rfl) ?_
  replace hf := zo_b hf; obtain ⟨r1, er1, hf⟩ := hf
  refine zw_callV (n := 0) (ci := 5) (q := zc_cl[5]) (As := []) (rest := []) S hK hw (zt_X5_hasRow l g h q _ er1) zm_379 zm_368 zm_369 zq_X5_hasRow zm_78 (by decide +kernel) ⟨Nat.le_of_ble_eq_true rfl, Nat.le_of_ble_eq_true rfl⟩ rfl rfl rfl (zi_X5_hasRow er1) hl.1 rfl (by simp [zv_cat, zv_ci, zv_cj]) zd_X5_hasStretch_1 ⟨(Nat.le_refl 0), (Nat.le_refl 0)⟩ (fun H locs hw => ?_)
  replace hw : zc_W g h H locs := hw
  refine lv_if_eq (tgt := 29) hx hb zd_X5_hasStretch_4 (by decide) (fun c2 => ?_) (fun c2 => ?_)
  · replace hf := zo_t c2 hf
    refine lv_iconst (v := 0) hx hb zd_X5_hasStretch_29 (by decide) ?_
    have hres := Option.some.inj hf; subst hres
    exact zw_iret (v := 0) (ty := .boolean) hx hb hr hlk rfl hw zd_X5_hasStretch_30 (Nat.le_refl 0) (Nat.le_refl 0)
  · replace hf := zo_f c2 hf
    refine lv_iload_n hx hb zd_X5_hasStretch_7 rfl (lv_at hl 1 rfl) ?_
    refine lv_if_lt (tgt := 29) hx hb zd_X5_hasStretch_8 (by decide) (fun c3 => ?_) (fun c3 => ?_)
    · replace hf := zo_t c3 hf
      refine lv_iconst (v := 0) hx hb zd_X5_hasStretch_29 (by decide) ?_
      have hres := Option.some.inj hf; subst hres
      exact zw_iret (v := 0) (ty := .boolean) hx hb hr hlk rfl hw zd_X5_hasStretch_30 (Nat.le_refl 0) (Nat.le_refl 0)
    · replace hf := zo_f c3 hf
      refine lv_iload_n hx hb zd_X5_hasStretch_11 rfl (lv_at hl 2 rfl) ?_
      refine lv_if_lt (tgt := 29) hx hb zd_X5_hasStretch_12 (by decide) (fun c4 => ?_) (fun c4 => ?_)
      · replace hf := zo_t c4 hf
        refine lv_iconst (v := 0) hx hb zd_X5_hasStretch_29 (by decide) ?_
        have hres := Option.some.inj hf; subst hres
        exact zw_iret (v := 0) (ty := .boolean) hx hb hr hlk rfl hw zd_X5_hasStretch_30 (Nat.le_refl 0) (Nat.le_refl 0)
      · replace hf := zo_f c4 hf
        refine lv_iload_n hx hb zd_X5_hasStretch_15 rfl (lv_at hl 2 rfl) ?_
        refine zl_aload_n hx hb zd_X5_hasStretch_16 rfl (lv_at hl 0 rfl) ?_
        replace hf := zo_b hf; obtain ⟨v5, ev5, hf⟩ := hf
        obtain ⟨u6, u6e, u6v⟩ := zo_b ev5
        obtain rfl := zv_i_e u6v
        refine zw_get S hK hw zk_5 (k := 1) (by decide) rfl zm_296 (Or.inl rfl) u6e zd_X5_hasStretch_17 ?_
        refine lv_iload_n hx hb zd_X5_hasStretch_20 rfl (lv_at hl 1 rfl) ?_
        refine lv_isub hx hb zd_X5_hasStretch_21 ?_
        refine lv_icmp_gt (tgt := 29) hx hb zd_X5_hasStretch_22 (by decide) (fun c7 => ?_) (fun c7 => ?_)
        · replace hf := zo_t c7 hf
          refine lv_iconst (v := 0) hx hb zd_X5_hasStretch_29 (by decide) ?_
          have hres := Option.some.inj hf; subst hres
          exact zw_iret (v := 0) (ty := .boolean) hx hb hr hlk rfl hw zd_X5_hasStretch_30 (Nat.le_refl 0) (Nat.le_refl 0)
        · replace hf := zo_f c7 hf
          refine lv_iconst (v := 1) hx hb zd_X5_hasStretch_25 (by decide) ?_
          refine lv_goto (tgt := 30) hx hb zd_X5_hasStretch_26 (by decide) ?_
          have hres := Option.some.inj hf; subst hres
          exact zw_iret (v := 1) (ty := .boolean) hx hb hr hlk rfl hw zd_X5_hasStretch_30 (Nat.le_refl 0) (Nat.le_refl 0)
def zf_X5_lowestBits (h : zc_H) (q : Nat) (x1 : Int64) : Option (Int64) :=
  if ¬ zf_is h q 5 = true then none else
  (zf_gi h q 5 0).bind fun v1 =>
  if (v1 - 100) = 0 then
    some ((((((x1 : Int64).toInt32) : Int32).toInt8.toInt32) : Int32).toInt64)
  else
  if (v1 - 100) = 1 then
    some ((((((x1 : Int64).toInt32) : Int32).toInt16.toInt32) : Int32).toInt64)
  else
  if (v1 - 100) = 2 then
    some ((((x1 : Int64).toInt32) : Int32).toInt64)
  else
  some x1
abbrev zr_X5_lowestBits : Room := { frames := 0, cells := 0, slots := 0, locals := 0 }
theorem zi_X5_lowestBits {h : zc_H} {q : Nat} {x1 : Int64} {res : Int64} (hf : zf_X5_lowestBits h q x1 = some res) : zf_is h q 5 = true := Decidable.not_not.mp (zo_n hf).1
set_option maxHeartbeats 4000000 in
set_option maxRecDepth 20000 in
theorem zt_X5_lowestBits (l : Launch) (g : zc_G) (h : zc_H) (q : Nat) (x1 : Int64) (res : Int64) (hf : zf_X5_lowestBits h q x1 = some res) : zc_M l g yX5_lowestBits cX5_lowestBits 3 (some .long) zr_X5_lowestBits h [va_rf ((some q)), .long (x1)] h (some (.long (res))) := by
  refine zc_M.of (by decide) (by simp [lg_sl, zv_cat, zv_ci, zv_cj]) ?_
  intro p e s m below meth c ls S hK hw hr hlk hnm hl
  replace S : CallFix p m c cX5_lowestBits 3 s [va_rf ((some q)), .long (x1)].toArray (zc_ws yX5_lowestBits cX5_lowestBits 3 (some .long)) RX5 := S
  have hx := S.1
  have hb := S.2.1
  replace hl : lv_has ls 3 [(0, va_rf ((some q))), (1, .long (x1))] := by simpa [lv_args, zv_cat, zv_ci, zv_cj] using hl
  generalize s.heap = H at hw ⊢
  obtain ⟨locs, hlocs⟩ : ∃ L : List Loc, L = [] := ⟨_, rfl⟩
  rw [← hlocs] at hw ⊢
  unfold zf_X5_lowestBits at hf
  obtain ⟨-, hf⟩ := zo_n hf
  refine zl_aload_n hx hb zd_X5_lowestBits_0 rfl (lv_at hl 0 rfl) ?_
  replace hf := zo_b hf; obtain ⟨v1, ev1, hf⟩ := hf
  obtain ⟨u2, u2e, u2v⟩ := zo_b ev1
  obtain rfl := zv_i_e u2v
  refine zw_get S hK hw zk_5 (k := 0) (by decide) rfl zm_294 (Or.inl rfl) u2e zd_X5_lowestBits_1 ?_
  refine lv_bipush (v := 100) hx hb zd_X5_lowestBits_4 (by decide) ?_
  refine lv_isub hx hb zd_X5_lowestBits_6 ?_
  by_cases c3 : (v1 - 100) = 0
  · replace hf := zo_t c3 hf
    refine W.eq (g2 := F0 m 7 ls (.int 0 :: [])) (by rw [c3] <;> rfl) ?_
    refine lv_tableIn (off := 25) (tgt := 32) hx hb zd_X5_lowestBits_7 (by decide) (by decide) (by decide) (by decide) ?_
    refine lv_lload_n hx hb zd_X5_lowestBits_32 rfl (lv_at hl 1 rfl) ?_
    refine lv_l2i (v := ((x1 : Int64).toInt32)) hx hb zd_X5_lowestBits_33 rfl ?_
    refine lv_i2b (v := ((((x1 : Int64).toInt32) : Int32).toInt8.toInt32)) hx hb zd_X5_lowestBits_34 rfl ?_
    refine lv_i2l (v := ((((((x1 : Int64).toInt32) : Int32).toInt8.toInt32) : Int32).toInt64)) hx hb zd_X5_lowestBits_35 rfl ?_
    have hres := Option.some.inj hf; subst hres
    exact zw_lret hx hb hr hlk hw zd_X5_lowestBits_36 (Nat.le_refl 0) (Nat.le_refl 0)
  replace hf := zo_f c3 hf
  by_cases c4 : (v1 - 100) = 1
  · replace hf := zo_t c4 hf
    refine W.eq (g2 := F0 m 7 ls (.int 1 :: [])) (by rw [c4] <;> rfl) ?_
    refine lv_tableIn (off := 30) (tgt := 37) hx hb zd_X5_lowestBits_7 (by decide) (by decide) (by decide) (by decide) ?_
    refine lv_lload_n hx hb zd_X5_lowestBits_37 rfl (lv_at hl 1 rfl) ?_
    refine lv_l2i (v := ((x1 : Int64).toInt32)) hx hb zd_X5_lowestBits_38 rfl ?_
    refine lv_i2s (v := ((((x1 : Int64).toInt32) : Int32).toInt16.toInt32)) hx hb zd_X5_lowestBits_39 rfl ?_
    refine lv_i2l (v := ((((((x1 : Int64).toInt32) : Int32).toInt16.toInt32) : Int32).toInt64)) hx hb zd_X5_lowestBits_40 rfl ?_
    have hres := Option.some.inj hf; subst hres
    exact zw_lret hx hb hr hlk hw zd_X5_lowestBits_41 (Nat.le_refl 0) (Nat.le_refl 0)
  replace hf := zo_f c4 hf
  by_cases c5 : (v1 - 100) = 2
  · replace hf := zo_t c5 hf
    refine W.eq (g2 := F0 m 7 ls (.int 2 :: [])) (by rw [c5] <;> rfl) ?_
    refine lv_tableIn (off := 35) (tgt := 42) hx hb zd_X5_lowestBits_7 (by decide) (by decide) (by decide) (by decide) ?_
    refine lv_lload_n hx hb zd_X5_lowestBits_42 rfl (lv_at hl 1 rfl) ?_
    refine lv_l2i (v := ((x1 : Int64).toInt32)) hx hb zd_X5_lowestBits_43 rfl ?_
    refine lv_i2l (v := ((((x1 : Int64).toInt32) : Int32).toInt64)) hx hb zd_X5_lowestBits_44 rfl ?_
    have hres := Option.some.inj hf; subst hres
    exact zw_lret hx hb hr hlk hw zd_X5_lowestBits_45 (Nat.le_refl 0) (Nat.le_refl 0)
  replace hf := zo_f c5 hf
  have zc3 : ((v1 - 100) : Int32).toInt ≠ 0 := fun h => c3 (Int32.toInt_inj.mp (h.trans (by decide)))
  have zc4 : ((v1 - 100) : Int32).toInt ≠ 1 := fun h => c4 (Int32.toInt_inj.mp (h.trans (by decide)))
  have zc5 : ((v1 - 100) : Int32).toInt ≠ 2 := fun h => c5 (Int32.toInt_inj.mp (h.trans (by decide)))
  refine lv_tableOut (tgt := 46) hx hb zd_X5_lowestBits_7 (by omega) (by decide) ?_
  refine lv_lload_n hx hb zd_X5_lowestBits_46 rfl (lv_at hl 1 rfl) ?_
  have hres := Option.some.inj hf; subst hres
  exact zw_lret hx hb hr hlk hw zd_X5_lowestBits_47 (Nat.le_refl 0) (Nat.le_refl 0)
def zf_X5_store (h : zc_H) (q : Nat) (x1 : Int32) (x2 : Int64) : Option (zc_H) :=
  if ¬ zf_is h q 5 = true then none else
  (zf_X5_hasElement h q x1).bind fun r1 =>
  if r1 = 0 then
    some h
  else
  (zf_gr h q 5 2).bind fun v3 =>
  (zf_X5_lowestBits h q x2).bind fun r5 =>
  v3.bind fun a6 =>
  (zf_sj h a6 x1 r5).bind fun h7 =>
  some h7
abbrev zr_X5_store : Room := { frames := 2, cells := 0, slots := 0, locals := 41 }
theorem zi_X5_store {h : zc_H} {q : Nat} {x1 : Int32} {x2 : Int64} {res : zc_H} (hf : zf_X5_store h q x1 x2 = some res) : zf_is h q 5 = true := Decidable.not_not.mp (zo_n hf).1
set_option maxHeartbeats 4000000 in
set_option maxRecDepth 20000 in
theorem zt_X5_store (l : Launch) (g : zc_G) (h : zc_H) (q : Nat) (x1 : Int32) (x2 : Int64) (res : zc_H) (hf : zf_X5_store h q x1 x2 = some res) : zc_M l g yX5_store cX5_store 4 none zr_X5_store h [va_rf ((some q)), .int (x1), .long (x2)] res none := by
  refine zc_M.of (by decide) (by simp [lg_sl, zv_cat, zv_ci, zv_cj]) ?_
  intro p e s m below meth c ls S hK hw hr hlk hnm hl
  replace S : CallFix p m c cX5_store 4 s [va_rf ((some q)), .int (x1), .long (x2)].toArray (zc_ws yX5_store cX5_store 4 none) RX5 := S
  have hx := S.1
  have hb := S.2.1
  replace hl : lv_has ls 4 [(0, va_rf ((some q))), (1, .int (x1)), (2, .long (x2))] := by simpa [lv_args, zv_cat, zv_ci, zv_cj] using hl
  generalize s.heap = H at hw ⊢
  obtain ⟨locs, hlocs⟩ : ∃ L : List Loc, L = [] := ⟨_, rfl⟩
  rw [← hlocs] at hw ⊢
  unfold zf_X5_store at hf
  obtain ⟨-, hf⟩ := zo_n hf
  refine zl_aload_n hx hb zd_X5_store_0 rfl (lv_at hl 0 rfl) ?_
  refine lv_iload_n hx hb zd_X5_store_1 rfl (lv_at hl 1 rfl) ?_
  replace hf := zo_b hf; obtain ⟨r1, er1, hf⟩ := hf
  refine zw_callV (n := 1) (ci := 5) (q := zc_cl[5]) (As := [.int (x1)]) (rest := []) S hK hw (zt_X5_hasElement l g h q x1 _ er1) zm_384 zm_376 zm_377 zq_X5_hasElement zm_78 (by decide +kernel) ⟨Nat.le_of_ble_eq_true rfl, Nat.le_of_ble_eq_true rfl⟩ rfl rfl rfl (zi_X5_hasElement er1) hl.1 rfl (by simp [zv_cat, zv_ci, zv_cj]) zd_X5_store_2 ⟨(Nat.le_refl 0), (Nat.le_refl 0)⟩ (fun H locs hw => ?_)
  replace hw : zc_W g h H locs := hw
  refine lv_if_eq (tgt := 19) hx hb zd_X5_store_5 (by decide) (fun c2 => ?_) (fun c2 => ?_)
  · replace hf := zo_t c2 hf
    have hres := Option.some.inj hf; subst hres
    exact zw_vret hx hb hr hlk hw zd_X5_store_19 (Nat.le_refl 0) (Nat.le_refl 0)
  · replace hf := zo_f c2 hf
    refine zl_aload_n hx hb zd_X5_store_8 rfl (lv_at hl 0 rfl) ?_
    replace hf := zo_b hf; obtain ⟨v3, ev3, hf⟩ := hf
    obtain ⟨u4, u4e, u4v⟩ := zo_b ev3
    obtain rfl := zv_r_e u4v
    refine zw_get S hK hw zk_5 (k := 2) (by decide) rfl zm_299 (Or.inl rfl) u4e zd_X5_store_9 ?_
    refine lv_iload_n hx hb zd_X5_store_12 rfl (lv_at hl 1 rfl) ?_
    refine zl_aload_n hx hb zd_X5_store_13 rfl (lv_at hl 0 rfl) ?_
    refine lv_lload_n hx hb zd_X5_store_14 rfl (lv_at hl 2 rfl) ?_
    replace hf := zo_b hf; obtain ⟨r5, er5, hf⟩ := hf
    refine zw_callV (n := 1) (ci := 5) (q := zc_cl[5]) (As := [.long (x2)]) (rest := [.int (x1), va_rf (v3)]) S hK hw (zt_X5_lowestBits l g h q x2 _ er5) zm_385 zm_387 zm_2 zq_X5_lowestBits zm_78 (by decide +kernel) ⟨Nat.le_of_ble_eq_true rfl, Nat.le_of_ble_eq_true rfl⟩ rfl rfl rfl (zi_X5_lowestBits er5) hl.1 rfl (by simp [zv_cat, zv_ci, zv_cj]) zd_X5_store_15 ⟨(Nat.le_refl 0), (Nat.le_refl 0)⟩ (fun H locs hw => ?_)
    replace hw : zc_W g h H locs := hw
    replace hf := zo_b hf; obtain ⟨a6, na6, hf⟩ := hf
    refine W.eq (g2 := F0 m 18 ls [.long (r5), .int (x1), va_rf ((some a6))]) (by rw [na6] <;> rfl) ?_
    replace hf := zo_b hf; obtain ⟨h7, eh7, hf⟩ := hf
    refine zw_last S hK hw eh7 zd_X5_store_18 (fun H locs hw => ?_)
    have hres := Option.some.inj hf; subst hres
    exact zw_vret hx hb hr hlk hw zd_X5_store_19 (Nat.le_refl 0) (Nat.le_refl 0)
def zf_X5_takeStretch (h : zc_H) (q : Nat) (x1 : Option Nat) (x2 : Int32) (x3 : Int32) (x4 : Int32) : Option (zc_H) :=
  if ¬ zf_is h q 5 = true then none else
  x1.bind fun a1 =>
  (zf_X5_hasStretch h a1 x2 x4).bind fun r2 =>
  if r2 = 0 then
    some h
  else
  (zf_X5_hasStretch h q x3 x4).bind fun r4 =>
  if r4 = 0 then
    some h
  else
  (zf_gr h a1 5 2).bind fun v6 =>
  (zf_gr h q 5 2).bind fun v8 =>
  v8.bind fun a10 =>
  v6.bind fun a11 =>
  (zf_cpj h a11 x2 a10 x3 x4).bind fun h12 =>
  some h12
abbrev zr_X5_takeStretch : Room := { frames := 2, cells := 0, slots := 0, locals := 60 }
theorem zi_X5_takeStretch {h : zc_H} {q : Nat} {x1 : Option Nat} {x2 : Int32} {x3 : Int32} {x4 : Int32} {res : zc_H} (hf : zf_X5_takeStretch h q x1 x2 x3 x4 = some res) : zf_is h q 5 = true := Decidable.not_not.mp (zo_n hf).1
set_option maxHeartbeats 4000000 in
set_option maxRecDepth 20000 in
theorem zt_X5_takeStretch (l : Launch) (g : zc_G) (h : zc_H) (q : Nat) (x1 : Option Nat) (x2 : Int32) (x3 : Int32) (x4 : Int32) (res : zc_H) (hf : zf_X5_takeStretch h q x1 x2 x3 x4 = some res) : zc_M l g yX5_takeStretch cX5_takeStretch 5 none zr_X5_takeStretch h [va_rf ((some q)), va_rf (x1), .int (x2), .int (x3), .int (x4)] res none := by
  refine zc_M.of (by decide) (by simp [lg_sl, zv_cat, zv_ci, zv_cj]) ?_
  intro p e s m below meth c ls S hK hw hr hlk hnm hl
  replace S : CallFix p m c cX5_takeStretch 5 s [va_rf ((some q)), va_rf (x1), .int (x2), .int (x3), .int (x4)].toArray (zc_ws yX5_takeStretch cX5_takeStretch 5 none) RX5 := S
  have hx := S.1
  have hb := S.2.1
  replace hl : lv_has ls 5 [(0, va_rf ((some q))), (1, va_rf (x1)), (2, .int (x2)), (3, .int (x3)), (4, .int (x4))] := by simpa [lv_args, zv_cat, zv_ci, zv_cj] using hl
  generalize s.heap = H at hw ⊢
  obtain ⟨locs, hlocs⟩ : ∃ L : List Loc, L = [] := ⟨_, rfl⟩
  rw [← hlocs] at hw ⊢
  unfold zf_X5_takeStretch at hf
  obtain ⟨-, hf⟩ := zo_n hf
  refine zl_aload_n hx hb zd_X5_takeStretch_0 rfl (lv_at hl 1 rfl) ?_
  refine lv_iload_n hx hb zd_X5_takeStretch_1 rfl (lv_at hl 2 rfl) ?_
  refine lv_iload hx hb zd_X5_takeStretch_2 (lv_at hl 4 rfl) ?_
  replace hf := zo_b hf; obtain ⟨a1, na1, hf⟩ := hf
  refine W.eq (g2 := F0 m 4 ls [.int (x4), .int (x2), va_rf ((some a1))]) (by rw [na1] <;> rfl) ?_
  replace hf := zo_b hf; obtain ⟨r2, er2, hf⟩ := hf
  refine zw_callV (n := 2) (ci := 5) (q := zc_cl[5]) (As := [.int (x2), .int (x4)]) (rest := []) S hK hw (zt_X5_hasStretch l g h a1 x2 x4 _ er2) zm_404 zm_397 zm_398 zq_X5_hasStretch zm_78 (by decide +kernel) ⟨Nat.le_of_ble_eq_true rfl, Nat.le_of_ble_eq_true rfl⟩ rfl rfl rfl (zi_X5_hasStretch er2) hl.1 rfl (by simp [zv_cat, zv_ci, zv_cj]) zd_X5_takeStretch_4 ⟨(Nat.le_refl 0), (Nat.le_refl 0)⟩ (fun H locs hw => ?_)
  replace hw : zc_W g h H locs := hw
  refine lv_if_eq (tgt := 35) hx hb zd_X5_takeStretch_7 (by decide) (fun c3 => ?_) (fun c3 => ?_)
  · replace hf := zo_t c3 hf
    have hres := Option.some.inj hf; subst hres
    exact zw_vret hx hb hr hlk hw zd_X5_takeStretch_35 (Nat.le_refl 0) (Nat.le_refl 0)
  · replace hf := zo_f c3 hf
    refine zl_aload_n hx hb zd_X5_takeStretch_10 rfl (lv_at hl 0 rfl) ?_
    refine lv_iload_n hx hb zd_X5_takeStretch_11 rfl (lv_at hl 3 rfl) ?_
    refine lv_iload hx hb zd_X5_takeStretch_12 (lv_at hl 4 rfl) ?_
    replace hf := zo_b hf; obtain ⟨r4, er4, hf⟩ := hf
    refine zw_callV (n := 2) (ci := 5) (q := zc_cl[5]) (As := [.int (x3), .int (x4)]) (rest := []) S hK hw (zt_X5_hasStretch l g h q x3 x4 _ er4) zm_404 zm_397 zm_398 zq_X5_hasStretch zm_78 (by decide +kernel) ⟨Nat.le_of_ble_eq_true rfl, Nat.le_of_ble_eq_true rfl⟩ rfl rfl rfl (zi_X5_hasStretch er4) hl.1 rfl (by simp [zv_cat, zv_ci, zv_cj]) zd_X5_takeStretch_14 ⟨(Nat.le_refl 0), (Nat.le_refl 0)⟩ (fun H locs hw => ?_)
    replace hw : zc_W g h H locs := hw
    refine lv_if_eq (tgt := 35) hx hb zd_X5_takeStretch_17 (by decide) (fun c5 => ?_) (fun c5 => ?_)
    · replace hf := zo_t c5 hf
      have hres := Option.some.inj hf; subst hres
      exact zw_vret hx hb hr hlk hw zd_X5_takeStretch_35 (Nat.le_refl 0) (Nat.le_refl 0)
    · replace hf := zo_f c5 hf
      refine zl_aload_n hx hb zd_X5_takeStretch_20 rfl (lv_at hl 1 rfl) ?_
      refine W.eq (g2 := F0 m 21 ls [va_rf ((some a1))]) (by rw [na1] <;> rfl) ?_
      replace hf := zo_b hf; obtain ⟨v6, ev6, hf⟩ := hf
      obtain ⟨u7, u7e, u7v⟩ := zo_b ev6
      obtain rfl := zv_r_e u7v
      refine zw_get S hK hw zk_5 (k := 2) (by decide) rfl zm_299 (Or.inl rfl) u7e zd_X5_takeStretch_21 ?_
      refine lv_iload_n hx hb zd_X5_takeStretch_24 rfl (lv_at hl 2 rfl) ?_
      refine zl_aload_n hx hb zd_X5_takeStretch_25 rfl (lv_at hl 0 rfl) ?_
      replace hf := zo_b hf; obtain ⟨v8, ev8, hf⟩ := hf
      obtain ⟨u9, u9e, u9v⟩ := zo_b ev8
      obtain rfl := zv_r_e u9v
      refine zw_get S hK hw zk_5 (k := 2) (by decide) rfl zm_299 (Or.inl rfl) u9e zd_X5_takeStretch_26 ?_
      refine lv_iload_n hx hb zd_X5_takeStretch_29 rfl (lv_at hl 3 rfl) ?_
      refine lv_iload hx hb zd_X5_takeStretch_30 (lv_at hl 4 rfl) ?_
      replace hf := zo_b hf; obtain ⟨a10, na10, hf⟩ := hf
      refine W.eq (g2 := F0 m 32 ls [.int (x4), .int (x3), va_rf ((some a10)), .int (x2), va_rf (v6)]) (by rw [na10] <;> rfl) ?_
      replace hf := zo_b hf; obtain ⟨a11, na11, hf⟩ := hf
      refine W.eq (g2 := F0 m 32 ls [.int (x4), .int (x3), va_rf ((some a10)), .int (x2), va_rf ((some a11))]) (by rw [na11] <;> rfl) ?_
      replace hf := zo_b hf; obtain ⟨h12, eh12, hf⟩ := hf
      refine zw_cpj S hK hw (ls_size hl) zm_405 rfl eh12 (Nat.le_of_ble_eq_true rfl) (by simp [zv_cat, zv_ci, zv_cj, zr_X5_takeStretch, nativeFrameWords]) zd_X5_takeStretch_32 (fun H locs hw => ?_)
      have hres := Option.some.inj hf; subst hres
      exact zw_vret hx hb hr hlk hw zd_X5_takeStretch_35 (Nat.le_refl 0) (Nat.le_refl 0)
def zf_Jxa1e45_init_da8c8 (h : zc_H) (q : Nat) : Option (Unit) :=
  if ¬ zf_is h q 11 = true then none else
  some ()
abbrev zr_Jxa1e45_init_da8c8 : Room := { frames := 1, cells := 0, slots := 0, locals := 40 }
theorem zi_Jxa1e45_init_da8c8 {h : zc_H} {q : Nat} {res : Unit} (hf : zf_Jxa1e45_init_da8c8 h q = some res) : zf_is h q 11 = true := Decidable.not_not.mp (zo_n hf).1
set_option maxHeartbeats 4000000 in
set_option maxRecDepth 20000 in
theorem zt_Jxa1e45_init_da8c8 (l : Launch) (g : zc_G) (h : zc_H) (q : Nat) (res : Unit) (hf : zf_Jxa1e45_init_da8c8 h q = some res) : zc_M l g yJxa1e45_init_da8c8 cJxa1e45_init_da8c8 1 none zr_Jxa1e45_init_da8c8 h [va_rf ((some q))] h none := by
  refine zc_M.of (by decide) (by simp [lg_sl, zv_cat, zv_ci, zv_cj]) ?_
  intro p e s m below meth c ls S hK hw hr hlk hnm hl
  replace S : CallFix p m c cJxa1e45_init_da8c8 1 s [va_rf ((some q))].toArray (zc_ws yJxa1e45_init_da8c8 cJxa1e45_init_da8c8 1 none) RJxa1e45 := S
  have hx := S.1
  have hb := S.2.1
  replace hl : lv_has ls 1 [(0, va_rf ((some q)))] := by simpa [lv_args, zv_cat, zv_ci, zv_cj] using hl
  generalize s.heap = H at hw ⊢
  obtain ⟨locs, hlocs⟩ : ∃ L : List Loc, L = [] := ⟨_, rfl⟩
  rw [← hlocs] at hw ⊢
  unfold zf_Jxa1e45_init_da8c8 at hf
  obtain ⟨-, hf⟩ := zo_n hf
  refine zl_aload_n hx hb zd_Jxa1e45_init_da8c8_0 rfl (lv_at hl 0 rfl) ?_
  refine W.objInit hx hb S.2.2.2.1 (S.2.2.2.2 _ (List.mem_cons_of_mem _ zm_116)) (S.2.2.2.2 _ (List.mem_cons_of_mem _ zm_95)) (S.2.2.2.2 _ (List.mem_cons_of_mem _ zm_96)) rfl (by rw [S.2.2.1]; exact hl.1) rfl zd_Jxa1e45_init_da8c8_1 (Nat.le_of_ble_eq_true rfl) (by simp [F0, JFrame.monitorRoom, zv_cat, zv_ci, zv_cj, zr_Jxa1e45_init_da8c8]) ?_
  refine W.eq (g2 := F0 m 4 ls []) rfl ?_
  have hres := Option.some.inj hf; subst hres
  exact zw_vret hx hb hr hlk hw zd_Jxa1e45_init_da8c8_4 (Nat.le_refl 0) (Nat.le_refl 0)
def zf_Jxc12de_init_da8c8 (h : zc_H) (q : Nat) : Option (zc_H) :=
  if ¬ zf_is h q 11 = true then none else
  (zf_Jxa1e45_init_da8c8 h q).bind fun r1 =>
  (zf_p h q 11 0 (.int (0))).bind fun h2 =>
  some h2
abbrev zr_Jxc12de_init_da8c8 : Room := { frames := 2, cells := 0, slots := 0, locals := 60 }
theorem zi_Jxc12de_init_da8c8 {h : zc_H} {q : Nat} {res : zc_H} (hf : zf_Jxc12de_init_da8c8 h q = some res) : zf_is h q 11 = true := Decidable.not_not.mp (zo_n hf).1
set_option maxHeartbeats 4000000 in
set_option maxRecDepth 20000 in
theorem zt_Jxc12de_init_da8c8 (l : Launch) (g : zc_G) (h : zc_H) (q : Nat) (res : zc_H) (hf : zf_Jxc12de_init_da8c8 h q = some res) : zc_M l g yJxc12de_init_da8c8 cJxc12de_init_da8c8 1 none zr_Jxc12de_init_da8c8 h [va_rf ((some q))] res none := by
  refine zc_M.of (by decide) (by simp [lg_sl, zv_cat, zv_ci, zv_cj]) ?_
  intro p e s m below meth c ls S hK hw hr hlk hnm hl
  replace S : CallFix p m c cJxc12de_init_da8c8 1 s [va_rf ((some q))].toArray (zc_ws yJxc12de_init_da8c8 cJxc12de_init_da8c8 1 none) RJxc12de := S
  have hx := S.1
  have hb := S.2.1
  replace hl : lv_has ls 1 [(0, va_rf ((some q)))] := by simpa [lv_args, zv_cat, zv_ci, zv_cj] using hl
  generalize s.heap = H at hw ⊢
  obtain ⟨locs, hlocs⟩ : ∃ L : List Loc, L = [] := ⟨_, rfl⟩
  rw [← hlocs] at hw ⊢
  unfold zf_Jxc12de_init_da8c8 at hf
  obtain ⟨-, hf⟩ := zo_n hf
  refine zl_aload_n hx hb zd_Jxc12de_init_da8c8_0 rfl (lv_at hl 0 rfl) ?_
  replace hf := zo_b hf; obtain ⟨r1, er1, hf⟩ := hf
  refine zw_callI (n := 0) (As := []) (rest := []) S hK hw (zt_Jxa1e45_init_da8c8 l g h q _ er1) rfl zm_113 zm_114 zq_Jxa1e45_init_da8c8 zm_70 (by decide +kernel) ⟨Nat.le_of_ble_eq_true rfl, Nat.le_of_ble_eq_true rfl⟩ rfl hl.1 rfl (by simp [zv_cat, zv_ci, zv_cj]) zd_Jxc12de_init_da8c8_1 ⟨(Nat.le_refl 0), (Nat.le_refl 0)⟩ (fun H locs hw => ?_)
  replace hw : zc_W g h H locs := hw
  refine zl_aload_n hx hb zd_Jxc12de_init_da8c8_4 rfl (lv_at hl 0 rfl) ?_
  refine lv_iconst (v := 0) hx hb zd_Jxc12de_init_da8c8_5 (by decide) ?_
  replace hf := zo_b hf; obtain ⟨h2, eh2, hf⟩ := hf
  refine zw_put S hK hw zk_11 (k := 0) (by decide) rfl zm_121 (Or.inl rfl) eh2 (ty := .int) (by decide +kernel) rfl rfl zd_Jxc12de_init_da8c8_6 (fun H locs hw => ?_)
  have hres := Option.some.inj hf; subst hres
  exact zw_vret hx hb hr hlk hw zd_Jxc12de_init_da8c8_9 (Nat.le_refl 0) (Nat.le_refl 0)
def zf_Jx4a65c_init_da8c8 (h : zc_H) (q : Nat) : Option (zc_H) :=
  if ¬ zf_is h q 11 = true then none else
  (zf_Jxc12de_init_da8c8 h q).bind fun r1 =>
  (zf_p r1 q 11 1 (va_rf ((some r1.2.2)))).bind fun h2 =>
  some h2
abbrev zr_Jx4a65c_init_da8c8 : Room := { frames := 3, cells := 0, slots := 0, locals := 80 }
theorem zi_Jx4a65c_init_da8c8 {h : zc_H} {q : Nat} {res : zc_H} (hf : zf_Jx4a65c_init_da8c8 h q = some res) : zf_is h q 11 = true := Decidable.not_not.mp (zo_n hf).1
set_option maxHeartbeats 4000000 in
set_option maxRecDepth 20000 in
theorem zt_Jx4a65c_init_da8c8 (l : Launch) (g : zc_G) (h : zc_H) (q : Nat) (res : zc_H) (hf : zf_Jx4a65c_init_da8c8 h q = some res) : zc_M l g yJx4a65c_init_da8c8 cJx4a65c_init_da8c8 1 none zr_Jx4a65c_init_da8c8 h [va_rf ((some q))] res none := by
  refine zc_M.of (by decide) (by simp [lg_sl, zv_cat, zv_ci, zv_cj]) ?_
  intro p e s m below meth c ls S hK hw hr hlk hnm hl
  replace S : CallFix p m c cJx4a65c_init_da8c8 1 s [va_rf ((some q))].toArray (zc_ws yJx4a65c_init_da8c8 cJx4a65c_init_da8c8 1 none) RJx4a65c := S
  have hx := S.1
  have hb := S.2.1
  replace hl : lv_has ls 1 [(0, va_rf ((some q)))] := by simpa [lv_args, zv_cat, zv_ci, zv_cj] using hl
  generalize s.heap = H at hw ⊢
  obtain ⟨locs, hlocs⟩ : ∃ L : List Loc, L = [] := ⟨_, rfl⟩
  rw [← hlocs] at hw ⊢
  unfold zf_Jx4a65c_init_da8c8 at hf
  obtain ⟨-, hf⟩ := zo_n hf
  refine zl_aload_n hx hb zd_Jx4a65c_init_da8c8_0 rfl (lv_at hl 0 rfl) ?_
  replace hf := zo_b hf; obtain ⟨r1, er1, hf⟩ := hf
  refine zw_callI (n := 0) (As := []) (rest := []) S hK hw (zt_Jxc12de_init_da8c8 l g h q _ er1) rfl zm_110 zm_111 zq_Jxc12de_init_da8c8 zm_71 (by decide +kernel) ⟨Nat.le_of_ble_eq_true rfl, Nat.le_of_ble_eq_true rfl⟩ rfl hl.1 rfl (by simp [zv_cat, zv_ci, zv_cj]) zd_Jx4a65c_init_da8c8_1 ⟨(Nat.le_refl 0), (Nat.le_refl 0)⟩ (fun H locs hw => ?_)
  replace hw : zc_W g r1 H locs := hw
  refine zl_aload_n hx hb zd_Jx4a65c_init_da8c8_4 rfl (lv_at hl 0 rfl) ?_
  refine zw_gets (ref := "") S hw hK.2.2.2.2.2.2.1 zm_117 zd_Jx4a65c_init_da8c8_5 ?_
  refine W.eq (g2 := F0 m 8 ls (va_rf (some r1.2.2) :: [va_rf ((some q))])) (by rw [hw.2.2.2.2.1.2]; rfl) ?_
  replace hf := zo_b hf; obtain ⟨h2, eh2, hf⟩ := hf
  refine zw_put S hK hw zk_11 (k := 1) (by decide) rfl zm_119 (Or.inl rfl) eh2 (ty := (.array (.object "java/lang/Object"))) (by decide +kernel) (zv_rnA _ _) (zv_rfA _ _) zd_Jx4a65c_init_da8c8_8 (fun H locs hw => ?_)
  have hres := Option.some.inj hf; subst hres
  exact zw_vret hx hb hr hlk hw zd_Jx4a65c_init_da8c8_11 (Nat.le_refl 0) (Nat.le_refl 0)
def zf_X6_init (h : zc_H) (q : Nat) : Option (zc_H) :=
  if ¬ zf_is h q 6 = true then none else
  (some (zf_new h (.inr (11, [.int 0, .null, .int 0])))).bind fun h1 =>
  (zf_Jx4a65c_init_da8c8 h1 h.2.1).bind fun r2 =>
  (zf_p r2 q 6 0 (va_rf ((some h.2.1)))).bind fun h3 =>
  (some (zf_new h3 (.inr (11, [.int 0, .null, .int 0])))).bind fun h4 =>
  (zf_Jx4a65c_init_da8c8 h4 h3.2.1).bind fun r5 =>
  (zf_p r5 q 6 1 (va_rf ((some h3.2.1)))).bind fun h6 =>
  (zf_p h6 q 6 3 (.int (2))).bind fun h7 =>
  (zf_p h7 q 6 4 (.int (6))).bind fun h8 =>
  (zf_p h8 q 6 5 (.int (1))).bind fun h9 =>
  (zf_p h9 q 6 6 (.int (1))).bind fun h10 =>
  some h10
abbrev zr_X6_init : Room := { frames := 4, cells := 2, slots := 6, locals := 100 }
theorem zi_X6_init {h : zc_H} {q : Nat} {res : zc_H} (hf : zf_X6_init h q = some res) : zf_is h q 6 = true := Decidable.not_not.mp (zo_n hf).1
set_option maxHeartbeats 4000000 in
set_option maxRecDepth 20000 in
theorem zt_X6_init (l : Launch) (g : zc_G) (h : zc_H) (q : Nat) (res : zc_H) (hf : zf_X6_init h q = some res) : zc_M l g yX6_init cX6_init 1 none zr_X6_init h [va_rf ((some q))] res none := by
  refine zc_M.of (by decide) (by simp [lg_sl, zv_cat, zv_ci, zv_cj]) ?_
  intro p e s m below meth c ls S hK hw hr hlk hnm hl
  replace S : CallFix p m c cX6_init 1 s [va_rf ((some q))].toArray (zc_ws yX6_init cX6_init 1 none) RX6 := S
  have hx := S.1
  have hb := S.2.1
  replace hl : lv_has ls 1 [(0, va_rf ((some q)))] := by simpa [lv_args, zv_cat, zv_ci, zv_cj] using hl
  generalize s.heap = H at hw ⊢
  obtain ⟨locs, hlocs⟩ : ∃ L : List Loc, L = [] := ⟨_, rfl⟩
  rw [← hlocs] at hw ⊢
  unfold zf_X6_init at hf
  obtain ⟨-, hf⟩ := zo_n hf
  refine zl_aload_n hx hb zd_X6_init_0 rfl (lv_at hl 0 rfl) ?_
  refine W.objInit hx hb S.2.2.2.1 (S.2.2.2.2 _ (List.mem_cons_of_mem _ zm_104)) (S.2.2.2.2 _ (List.mem_cons_of_mem _ zm_95)) (S.2.2.2.2 _ (List.mem_cons_of_mem _ zm_96)) rfl (by rw [S.2.2.1]; exact hl.1) rfl zd_X6_init_1 (Nat.le_of_ble_eq_true rfl) (by simp [F0, JFrame.monitorRoom, zv_cat, zv_ci, zv_cj, zr_X6_init]) ?_
  refine W.eq (g2 := F0 m 4 ls []) rfl ?_
  refine zl_aload_n hx hb zd_X6_init_4 rfl (lv_at hl 0 rfl) ?_
  replace hf := zo_b hf; obtain ⟨h1, eh1, hf⟩ := hf
  refine zw_new (ci := 11) (ty := tyJx4a65c) (fs := [.int 0, .null, .int 0]) S hK hw zk_11 (fun k hk => tyJx4a65c_ok k hk) (by decide) zm_105 zm_106 zm_72 (by show _ ≤ (2 : Nat); omega) (by show _ ≤ (6 : Nat); omega) zd_X6_init_5 (fun H hw => ?_)
  replace hw : zc_W g h1 H locs := (Option.some.inj eh1) ▸ hw
  refine lv_dup hx hb zd_X6_init_8 rfl ?_
  replace hf := zo_b hf; obtain ⟨r2, er2, hf⟩ := hf
  refine zw_callI (n := 0) (As := []) (rest := [va_rf ((some h.2.1)), va_rf ((some q))]) S hK hw (zt_Jx4a65c_init_da8c8 l g h1 h.2.1 _ er2) rfl zm_107 zm_108 zq_Jx4a65c_init_da8c8 zm_72 (by decide +kernel) ⟨Nat.le_of_ble_eq_true rfl, Nat.le_of_ble_eq_true rfl⟩ rfl hl.1 rfl (by simp [zv_cat, zv_ci, zv_cj]) zd_X6_init_9 ⟨(by show (0 + 1) + (0 : Nat) ≤ (2 : Nat); omega), (by show (0 + 3) + (0 : Nat) ≤ (6 : Nat); omega)⟩ (fun H locs hw => ?_)
  replace hw : zc_W g r2 H locs := hw
  refine W.widen (k := ((0 + 1) + 0)) (n := ((0 + 3) + 0)) (Nat.le_refl _) (Nat.le_refl _) ?_
  replace hf := zo_b hf; obtain ⟨h3, eh3, hf⟩ := hf
  refine zw_putF S hK hw zk_6 (k := 0) (by decide) rfl zm_131 hnm eh3 (ty := (.object "java/util/ArrayList")) (by decide +kernel) (zv_rnO _ _) (zv_rfO _ _) zd_X6_init_12 (fun H locs hw => ?_)
  refine zl_aload_n hx hb zd_X6_init_15 rfl (lv_at hl 0 rfl) ?_
  replace hf := zo_b hf; obtain ⟨h4, eh4, hf⟩ := hf
  refine zw_new (ci := 11) (ty := tyJx4a65c) (fs := [.int 0, .null, .int 0]) S hK hw zk_11 (fun k hk => tyJx4a65c_ok k hk) (by decide) zm_105 zm_106 zm_72 (by show _ ≤ (2 : Nat); omega) (by show _ ≤ (6 : Nat); omega) zd_X6_init_16 (fun H hw => ?_)
  replace hw : zc_W g h4 H locs := (Option.some.inj eh4) ▸ hw
  refine lv_dup hx hb zd_X6_init_19 rfl ?_
  replace hf := zo_b hf; obtain ⟨r5, er5, hf⟩ := hf
  refine zw_callI (n := 0) (As := []) (rest := [va_rf ((some h3.2.1)), va_rf ((some q))]) S hK hw (zt_Jx4a65c_init_da8c8 l g h4 h3.2.1 _ er5) rfl zm_107 zm_108 zq_Jx4a65c_init_da8c8 zm_72 (by decide +kernel) ⟨Nat.le_of_ble_eq_true rfl, Nat.le_of_ble_eq_true rfl⟩ rfl hl.1 rfl (by simp [zv_cat, zv_ci, zv_cj]) zd_X6_init_20 ⟨(by show (((0 + 1) + 0) + 1) + (0 : Nat) ≤ (2 : Nat); omega), (by show (((0 + 3) + 0) + 3) + (0 : Nat) ≤ (6 : Nat); omega)⟩ (fun H locs hw => ?_)
  replace hw : zc_W g r5 H locs := hw
  refine W.widen (k := ((((0 + 1) + 0) + 1) + 0)) (n := ((((0 + 3) + 0) + 3) + 0)) (Nat.le_refl _) (Nat.le_refl _) ?_
  replace hf := zo_b hf; obtain ⟨h6, eh6, hf⟩ := hf
  refine zw_putF S hK hw zk_6 (k := 1) (by decide) rfl zm_133 hnm eh6 (ty := (.object "java/util/ArrayList")) (by decide +kernel) (zv_rnO _ _) (zv_rfO _ _) zd_X6_init_23 (fun H locs hw => ?_)
  refine zl_aload_n hx hb zd_X6_init_26 rfl (lv_at hl 0 rfl) ?_
  refine lv_iconst (v := 2) hx hb zd_X6_init_27 (by decide) ?_
  replace hf := zo_b hf; obtain ⟨h7, eh7, hf⟩ := hf
  refine zw_put S hK hw zk_6 (k := 3) (by decide) rfl zm_138 (Or.inl rfl) eh7 (ty := .int) (by decide +kernel) rfl rfl zd_X6_init_28 (fun H locs hw => ?_)
  refine zl_aload_n hx hb zd_X6_init_31 rfl (lv_at hl 0 rfl) ?_
  refine lv_bipush (v := 6) hx hb zd_X6_init_32 (by decide) ?_
  replace hf := zo_b hf; obtain ⟨h8, eh8, hf⟩ := hf
  refine zw_put S hK hw zk_6 (k := 4) (by decide) rfl zm_140 (Or.inl rfl) eh8 (ty := .int) (by decide +kernel) rfl rfl zd_X6_init_34 (fun H locs hw => ?_)
  refine zl_aload_n hx hb zd_X6_init_37 rfl (lv_at hl 0 rfl) ?_
  refine lv_iconst (v := 1) hx hb zd_X6_init_38 (by decide) ?_
  replace hf := zo_b hf; obtain ⟨h9, eh9, hf⟩ := hf
  refine zw_put S hK hw zk_6 (k := 5) (by decide) rfl zm_142 (Or.inl rfl) eh9 (ty := .int) (by decide +kernel) rfl rfl zd_X6_init_39 (fun H locs hw => ?_)
  refine zl_aload_n hx hb zd_X6_init_42 rfl (lv_at hl 0 rfl) ?_
  refine lv_iconst (v := 1) hx hb zd_X6_init_43 (by decide) ?_
  replace hf := zo_b hf; obtain ⟨h10, eh10, hf⟩ := hf
  refine zw_put S hK hw zk_6 (k := 6) (by decide) rfl zm_144 (Or.inl rfl) eh10 (ty := .int) (by decide +kernel) rfl rfl zd_X6_init_44 (fun H locs hw => ?_)
  have hres := Option.some.inj hf; subst hres
  exact zw_vret hx hb hr hlk hw zd_X6_init_47 (by show _ ≤ (2 : Nat); omega) (by show _ ≤ (6 : Nat); omega)
def zf_Jx4a65c_clear_da8c8_L27 (q : Nat) (y1 : Option Nat) (y2 : Int32) : Nat → zc_H → Int32 → Option (zc_H)
  | 0, _, _ => none
  | n + 1, h, y3 =>
    if y2 ≤ y3 then
      some h
    else
    y1.bind fun a10 =>
    (zf_sN h a10 y3).bind fun h11 =>
    zf_Jx4a65c_clear_da8c8_L27 q y1 y2 n h11 (y3 + 1)
def zf_Jx4a65c_clear_da8c8 (h : zc_H) (q : Nat) : Option (zc_H) :=
  if ¬ zf_is h q 11 = true then none else
  (zf_gi h q 11 0).bind fun v1 =>
  (zf_p h q 11 0 (.int ((v1 + 1)))).bind fun h3 =>
  (zf_gr h3 q 11 1).bind fun v4 =>
  (zf_gi h3 q 11 2).bind fun v6 =>
  (zf_p h3 q 11 2 (.int (0))).bind fun h8 =>
  (zf_Jx4a65c_clear_da8c8_L27 q v4 v6 2000 h8 0).bind fun w12 =>
  some w12
abbrev zr_Jx4a65c_clear_da8c8 : Room := { frames := 0, cells := 0, slots := 0, locals := 0 }
theorem zi_Jx4a65c_clear_da8c8 {h : zc_H} {q : Nat} {res : zc_H} (hf : zf_Jx4a65c_clear_da8c8 h q = some res) : zf_is h q 11 = true := Decidable.not_not.mp (zo_n hf).1
set_option maxHeartbeats 4000000 in
set_option maxRecDepth 20000 in
theorem zt_Jx4a65c_clear_da8c8 (l : Launch) (g : zc_G) (h : zc_H) (q : Nat) (res : zc_H) (hf : zf_Jx4a65c_clear_da8c8 h q = some res) : zc_M l g yJx4a65c_clear_da8c8 cJx4a65c_clear_da8c8 4 none zr_Jx4a65c_clear_da8c8 h [va_rf ((some q))] res none := by
  refine zc_M.of (by decide) (by simp [lg_sl, zv_cat, zv_ci, zv_cj]) ?_
  intro p e s m below meth c ls S hK hw hr hlk hnm hl
  replace S : CallFix p m c cJx4a65c_clear_da8c8 4 s [va_rf ((some q))].toArray (zc_ws yJx4a65c_clear_da8c8 cJx4a65c_clear_da8c8 4 none) RJx4a65c := S
  have hx := S.1
  have hb := S.2.1
  replace hl : lv_has ls 4 [(0, va_rf ((some q)))] := by simpa [lv_args, zv_cat, zv_ci, zv_cj] using hl
  generalize s.heap = H at hw ⊢
  obtain ⟨locs, hlocs⟩ : ∃ L : List Loc, L = [] := ⟨_, rfl⟩
  rw [← hlocs] at hw ⊢
  have L27 : ∀ (y1 : Option Nat) (y2 : Int32) (n : Nat) (h : zc_H) (y3 : Int32) (w : zc_H) (H : Heap) (locs : List Loc) (ls : Array Slot), zf_Jx4a65c_clear_da8c8_L27 q y1 y2 n h y3 = some w → zc_W g h H locs → lv_has ls 4 [(1, va_rf (y1)), (2, .int (y2)), (3, .int (y3))] → (∀ (H : Heap) (locs : List Loc) (ls : Array Slot), zc_W g w H locs → lv_has ls 4 [] → W p l e zr_Jx4a65c_clear_da8c8 s m [va_rf ((some q))].toArray below meth c H locs 0 0 (zc_Q g below zr_Jx4a65c_clear_da8c8 none res [va_rf ((some q))] s) (F0 m 42 ls [])) → W p l e zr_Jx4a65c_clear_da8c8 s m [va_rf ((some q))].toArray below meth c H locs 0 0 (zc_Q g below zr_Jx4a65c_clear_da8c8 none res [va_rf ((some q))] s) (F0 m 27 ls []) := by
    intro y1 y2 n
    induction n with
    | zero =>
      intro h y3 w H locs ls hf
      cases hf
    | succ n ih =>
      intro h y3 w H locs ls hf hw hl  kk
      unfold zf_Jx4a65c_clear_da8c8_L27 at hf
      refine lv_iload_n hx hb zd_Jx4a65c_clear_da8c8_27 rfl (lv_at hl 2 rfl) ?_
      refine lv_iload_n hx hb zd_Jx4a65c_clear_da8c8_28 rfl (lv_at hl 1 rfl) ?_
      refine lv_icmp_ge (tgt := 42) hx hb zd_Jx4a65c_clear_da8c8_29 (by decide) (fun c9 => ?_) (fun c9 => ?_)
      · replace hf := zo_t c9 hf
        have hres := Option.some.inj hf; subst hres
        exact kk _ _ _ hw (lv_sub hl [] rfl)
      · replace hf := zo_f c9 hf
        refine zl_aload_n hx hb zd_Jx4a65c_clear_da8c8_32 rfl (lv_at hl 0 rfl) ?_
        refine lv_iload_n hx hb zd_Jx4a65c_clear_da8c8_33 rfl (lv_at hl 2 rfl) ?_
        refine zl_null hx hb zd_Jx4a65c_clear_da8c8_34 ?_
        replace hf := zo_b hf; obtain ⟨a10, na10, hf⟩ := hf
        refine W.eq (g2 := F0 m 35 ls [va_rf (none), .int (y3), va_rf ((some a10))]) (by rw [na10] <;> rfl) ?_
        replace hf := zo_b hf; obtain ⟨h11, eh11, hf⟩ := hf
        refine zw_aastN S hK hw eh11 zd_Jx4a65c_clear_da8c8_35 (fun H locs hw => ?_)
        refine lv_iinc (i := 3) (v := (y3 + 1)) (lv' := [(3, .int ((y3 + 1))), (1, va_rf (y1)), (2, .int (y2))]) hx hb zd_Jx4a65c_clear_da8c8_36 hl (k := 2) rfl (congrArg (_ + ·) (by decide)) (by decide) rfl (fun ls hl => ?_)
        refine lv_goto (tgt := 27) hx hb zd_Jx4a65c_clear_da8c8_39 (by decide) ?_
        exact ih h11 (y3 + 1) _ _ _ _ hf hw (lv_sub hl [1, 2, 0] rfl) kk
  unfold zf_Jx4a65c_clear_da8c8 at hf
  obtain ⟨-, hf⟩ := zo_n hf
  refine zl_aload_n hx hb zd_Jx4a65c_clear_da8c8_0 rfl (lv_at hl 0 rfl) ?_
  refine lv_dup hx hb zd_Jx4a65c_clear_da8c8_1 rfl ?_
  replace hf := zo_b hf; obtain ⟨v1, ev1, hf⟩ := hf
  obtain ⟨u2, u2e, u2v⟩ := zo_b ev1
  obtain rfl := zv_i_e u2v
  refine zw_get S hK hw zk_11 (k := 0) (by decide) rfl zm_122 (Or.inr zm_123) u2e zd_Jx4a65c_clear_da8c8_2 ?_
  refine lv_iconst (v := 1) hx hb zd_Jx4a65c_clear_da8c8_5 (by decide) ?_
  refine lv_iadd hx hb zd_Jx4a65c_clear_da8c8_6 ?_
  replace hf := zo_b hf; obtain ⟨h3, eh3, hf⟩ := hf
  refine zw_put S hK hw zk_11 (k := 0) (by decide) rfl zm_122 (Or.inr zm_123) eh3 (ty := .int) (by decide +kernel) rfl rfl zd_Jx4a65c_clear_da8c8_7 (fun H locs hw => ?_)
  refine zl_aload_n hx hb zd_Jx4a65c_clear_da8c8_10 rfl (lv_at hl 0 rfl) ?_
  replace hf := zo_b hf; obtain ⟨v4, ev4, hf⟩ := hf
  obtain ⟨u5, u5e, u5v⟩ := zo_b ev4
  obtain rfl := zv_r_e u5v
  refine zw_get S hK hw zk_11 (k := 1) (by decide) rfl zm_119 (Or.inl rfl) u5e zd_Jx4a65c_clear_da8c8_11 ?_
  refine zl_astore_n (i := 1) (lv' := [(1, va_rf (v4)), (0, va_rf ((some q)))]) hx hb zd_Jx4a65c_clear_da8c8_14 rfl hl (by decide) rfl (fun ls hl => ?_)
  refine zl_aload_n hx hb zd_Jx4a65c_clear_da8c8_15 rfl (lv_at hl 1 rfl) ?_
  replace hf := zo_b hf; obtain ⟨v6, ev6, hf⟩ := hf
  obtain ⟨u7, u7e, u7v⟩ := zo_b ev6
  obtain rfl := zv_i_e u7v
  refine zw_get S hK hw zk_11 (k := 2) (by decide) rfl zm_120 (Or.inl rfl) u7e zd_Jx4a65c_clear_da8c8_16 ?_
  refine lv_istore_n (i := 2) (lv' := [(2, .int (v6)), (1, va_rf (v4)), (0, va_rf ((some q)))]) hx hb zd_Jx4a65c_clear_da8c8_19 rfl hl (by decide) (by simp [List.filter, zv_cat, zv_ci, zv_cj]) (fun ls hl => ?_)
  refine zl_aload_n hx hb zd_Jx4a65c_clear_da8c8_20 rfl (lv_at hl 2 rfl) ?_
  refine lv_iconst (v := 0) hx hb zd_Jx4a65c_clear_da8c8_21 (by decide) ?_
  refine lv_dup_x1 hx hb zd_Jx4a65c_clear_da8c8_22 rfl rfl ?_
  replace hf := zo_b hf; obtain ⟨h8, eh8, hf⟩ := hf
  refine zw_put S hK hw zk_11 (k := 2) (by decide) rfl zm_120 (Or.inl rfl) eh8 (ty := .int) (by decide +kernel) rfl rfl zd_Jx4a65c_clear_da8c8_23 (fun H locs hw => ?_)
  refine lv_istore_n (i := 3) (lv' := [(3, .int (0)), (2, .int (v6)), (1, va_rf (v4)), (0, va_rf ((some q)))]) hx hb zd_Jx4a65c_clear_da8c8_26 rfl hl (by decide) rfl (fun ls hl => ?_)
  replace hf := zo_b hf; obtain ⟨w12, w12e, hf⟩ := hf
  refine L27 v4 v6 2000 h8 0 _ _ _ _ w12e hw (lv_sub hl [2, 1, 0] rfl) (fun H locs ls hw hl => ?_)
  have hres := Option.some.inj hf; subst hres
  exact zw_vret hx hb hr hlk hw zd_Jx4a65c_clear_da8c8_42 (Nat.le_refl 0) (Nat.le_refl 0)
def zf_Jx4a65c_size_8abf5 (h : zc_H) (q : Nat) : Option (Int32) :=
  if ¬ zf_is h q 11 = true then none else
  (zf_gi h q 11 2).bind fun v1 =>
  some v1
abbrev zr_Jx4a65c_size_8abf5 : Room := { frames := 0, cells := 0, slots := 0, locals := 0 }
theorem zi_Jx4a65c_size_8abf5 {h : zc_H} {q : Nat} {res : Int32} (hf : zf_Jx4a65c_size_8abf5 h q = some res) : zf_is h q 11 = true := Decidable.not_not.mp (zo_n hf).1
set_option maxHeartbeats 4000000 in
set_option maxRecDepth 20000 in
theorem zt_Jx4a65c_size_8abf5 (l : Launch) (g : zc_G) (h : zc_H) (q : Nat) (res : Int32) (hf : zf_Jx4a65c_size_8abf5 h q = some res) : zc_M l g yJx4a65c_size_8abf5 cJx4a65c_size_8abf5 1 (some .int) zr_Jx4a65c_size_8abf5 h [va_rf ((some q))] h (some (.int (res))) := by
  refine zc_M.of (by decide) (by simp [lg_sl, zv_cat, zv_ci, zv_cj]) ?_
  intro p e s m below meth c ls S hK hw hr hlk hnm hl
  replace S : CallFix p m c cJx4a65c_size_8abf5 1 s [va_rf ((some q))].toArray (zc_ws yJx4a65c_size_8abf5 cJx4a65c_size_8abf5 1 (some .int)) RJx4a65c := S
  have hx := S.1
  have hb := S.2.1
  replace hl : lv_has ls 1 [(0, va_rf ((some q)))] := by simpa [lv_args, zv_cat, zv_ci, zv_cj] using hl
  generalize s.heap = H at hw ⊢
  obtain ⟨locs, hlocs⟩ : ∃ L : List Loc, L = [] := ⟨_, rfl⟩
  rw [← hlocs] at hw ⊢
  unfold zf_Jx4a65c_size_8abf5 at hf
  obtain ⟨-, hf⟩ := zo_n hf
  refine zl_aload_n hx hb zd_Jx4a65c_size_8abf5_0 rfl (lv_at hl 0 rfl) ?_
  replace hf := zo_b hf; obtain ⟨v1, ev1, hf⟩ := hf
  obtain ⟨u2, u2e, u2v⟩ := zo_b ev1
  obtain rfl := zv_i_e u2v
  refine zw_get S hK hw zk_11 (k := 2) (by decide) rfl zm_120 (Or.inl rfl) u2e zd_Jx4a65c_size_8abf5_1 ?_
  have hres := Option.some.inj hf; subst hres
  exact zw_iret (v := v1) (ty := .int) hx hb hr hlk rfl hw zd_Jx4a65c_size_8abf5_4 (Nat.le_refl 0) (Nat.le_refl 0)
def zf_J3_checkIndex_8e157 (h : zc_H) (x0 : Int32) (x1 : Int32) (x2 : Option Nat) : Option (Int32) :=
  if x0 < 0 then
    none
  else
  if x0 < x1 then
    some x0
  else
  none
abbrev zr_J3_checkIndex_8e157 : Room := { frames := 0, cells := 0, slots := 0, locals := 0 }
set_option maxHeartbeats 4000000 in
set_option maxRecDepth 20000 in
theorem zt_J3_checkIndex_8e157 (l : Launch) (g : zc_G) (h : zc_H) (x0 : Int32) (x1 : Int32) (x2 : Option Nat) (res : Int32) (hf : zf_J3_checkIndex_8e157 h x0 x1 x2 = some res) : zc_M l g yJ3_checkIndex_8e157 cJ3_checkIndex_8e157 3 (some .int) zr_J3_checkIndex_8e157 h [.int (x0), .int (x1), va_rf (x2)] h (some (.int (res))) := by
  refine zc_M.of (by decide) (by simp [lg_sl, zv_cat, zv_ci, zv_cj]) ?_
  intro p e s m below meth c ls S hK hw hr hlk hnm hl
  replace S : CallFix p m c cJ3_checkIndex_8e157 3 s [.int (x0), .int (x1), va_rf (x2)].toArray (zc_ws yJ3_checkIndex_8e157 cJ3_checkIndex_8e157 3 (some .int)) RJ3 := S
  have hx := S.1
  have hb := S.2.1
  replace hl : lv_has ls 3 [(0, .int (x0)), (1, .int (x1)), (2, va_rf (x2))] := by simpa [lv_args, zv_cat, zv_ci, zv_cj] using hl
  generalize s.heap = H at hw ⊢
  obtain ⟨locs, hlocs⟩ : ∃ L : List Loc, L = [] := ⟨_, rfl⟩
  rw [← hlocs] at hw ⊢
  unfold zf_J3_checkIndex_8e157 at hf
  refine lv_iload_n hx hb zd_J3_checkIndex_8e157_0 rfl (lv_at hl 0 rfl) ?_
  refine lv_if_lt (tgt := 9) hx hb zd_J3_checkIndex_8e157_1 (by decide) (fun c1 => ?_) (fun c1 => ?_)
  · replace hf := zo_t c1 hf
    cases hf
  · replace hf := zo_f c1 hf
    refine lv_iload_n hx hb zd_J3_checkIndex_8e157_4 rfl (lv_at hl 0 rfl) ?_
    refine lv_iload_n hx hb zd_J3_checkIndex_8e157_5 rfl (lv_at hl 1 rfl) ?_
    refine lv_icmp_lt (tgt := 16) hx hb zd_J3_checkIndex_8e157_6 (by decide) (fun c2 => ?_) (fun c2 => ?_)
    · replace hf := zo_t c2 hf
      refine lv_iload_n hx hb zd_J3_checkIndex_8e157_16 rfl (lv_at hl 0 rfl) ?_
      have hres := Option.some.inj hf; subst hres
      exact zw_iret (v := x0) (ty := .int) hx hb hr hlk rfl hw zd_J3_checkIndex_8e157_17 (Nat.le_refl 0) (Nat.le_refl 0)
    · replace hf := zo_f c2 hf
      cases hf
