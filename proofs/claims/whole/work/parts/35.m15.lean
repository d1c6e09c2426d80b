def zf_X9_unfitAsRow (h : zc_H) (x0 : Option Nat) : Option (Int32) :=
  x0.bind fun a1 =>
  (zf_X5_hasRow h a1).bind fun r2 =>
  if r2 = 0 then
    (zf_X5_hasRemark h a1).bind fun r4 =>
    if r4 = 0 then
      some (-3)
    else
    some (-2)
  else
  some 0
abbrev zr_X9_unfitAsRow : Room := { frames := 1, cells := 0, slots := 0, locals := 20 }
set_option maxHeartbeats 4000000 in
set_option maxRecDepth 20000 in
theorem zt_X9_unfitAsRow (l : Launch) (g : zc_G) (h : zc_H) (x0 : Option Nat) (res : Int32) (hf : zf_X9_unfitAsRow h x0 = some res) : zc_M l g yX9_unfitAsRow cX9_unfitAsRow 1 (some .int) zr_X9_unfitAsRow h [va_rf (x0)] h (some (.int (res))) := by
  refine zc_M.of (by decide) (by simp [lg_sl, zv_cat, zv_ci, zv_cj]) ?_
  intro p e s m below meth c ls S hK hw hr hlk hnm hl
  replace S : CallFix p m c cX9_unfitAsRow 1 s [va_rf (x0)].toArray (zc_ws yX9_unfitAsRow cX9_unfitAsRow 1 (some .int)) RX9 := S
  have hx := S.1
  have hb := S.2.1
  replace hl : lv_has ls 1 [(0, va_rf (x0))] := by simpa [lv_args, zv_cat, zv_ci, zv_cj] using hl
  generalize s.heap = H at hw ⊢
  obtain ⟨locs, hlocs⟩ : ∃ L : List Loc, L = [] := ⟨_, rfl⟩
  rw [← hlocs] at hw ⊢
  unfold zf_X9_unfitAsRow at hf
  refine zl_aload_n hx hb zd_X9_unfitAsRow_0 rfl (lv_at hl 0 rfl) ?_
  replace hf := zo_b hf; obtain ⟨a1, na1, hf⟩ := hf
  refine W.eq (g2 := F0 m 1 ls [va_rf ((some a1))]) (by rw [na1] <;> rfl) ?_
  replace hf := zo_b hf; obtain ⟨r2, er2, hf⟩ := hf
  refine zw_callV (n := 0) (ci := 5) (q := zc_cl[5]) (As := []) (rest := []) S hK hw (zt_X5_hasRow l g h a1 _ er2) zm_367 zm_368 zm_369 zq_X5_hasRow zm_78 (by decide +kernel) ⟨Nat.le_of_ble_eq_true rfl, Nat.le_of_ble_eq_true rfl⟩ rfl rfl rfl (zi_X5_hasRow er2) hl.1 rfl (by simp [zv_cat, zv_ci, zv_cj]) zd_X9_unfitAsRow_1 ⟨(Nat.le_refl 0), (Nat.le_refl 0)⟩ (fun H locs hw => ?_)
  replace hw : zc_W g h H locs := hw
  refine lv_if_eq (tgt := 9) hx hb zd_X9_unfitAsRow_4 (by decide) (fun c3 => ?_) (fun c3 => ?_)
  · replace hf := zo_t c3 hf
    refine zl_aload_n hx hb zd_X9_unfitAsRow_9 rfl (lv_at hl 0 rfl) ?_
    refine W.eq (g2 := F0 m 10 ls [va_rf ((some a1))]) (by rw [na1] <;> rfl) ?_
    replace hf := zo_b hf; obtain ⟨r4, er4, hf⟩ := hf
    refine zw_callV (n := 0) (ci := 5) (q := zc_cl[5]) (As := []) (rest := []) S hK hw (zt_X5_hasRemark l g h a1 _ er4) zm_371 zm_372 zm_373 zq_X5_hasRemark zm_78 (by decide +kernel) ⟨Nat.le_of_ble_eq_true rfl, Nat.le_of_ble_eq_true rfl⟩ rfl rfl rfl (zi_X5_hasRemark er4) hl.1 rfl (by simp [zv_cat, zv_ci, zv_cj]) zd_X9_unfitAsRow_10 ⟨(Nat.le_refl 0), (Nat.le_refl 0)⟩ (fun H locs hw => ?_)
    replace hw : zc_W g h H locs := hw
    refine lv_if_eq (tgt := 21) hx hb zd_X9_unfitAsRow_13 (by decide) (fun c5 => ?_) (fun c5 => ?_)
    · replace hf := zo_t c5 hf
      refine lv_bipush (v := (-3)) hx hb zd_X9_unfitAsRow_21 (by decide) ?_
      have hres := Option.some.inj hf; subst hres
      exact zw_iret (v := (-3)) (ty := .int) hx hb hr hlk rfl hw zd_X9_unfitAsRow_23 (Nat.le_refl 0) (Nat.le_refl 0)
    · replace hf := zo_f c5 hf
      refine lv_bipush (v := (-2)) hx hb zd_X9_unfitAsRow_16 (by decide) ?_
      refine lv_goto (tgt := 23) hx hb zd_X9_unfitAsRow_18 (by decide) ?_
      have hres := Option.some.inj hf; subst hres
      exact zw_iret (v := (-2)) (ty := .int) hx hb hr hlk rfl hw zd_X9_unfitAsRow_23 (Nat.le_refl 0) (Nat.le_refl 0)
  · replace hf := zo_f c3 hf
    refine lv_iconst (v := 0) hx hb zd_X9_unfitAsRow_7 (by decide) ?_
    have hres := Option.some.inj hf; subst hres
    exact zw_iret (v := 0) (ty := .int) hx hb hr hlk rfl hw zd_X9_unfitAsRow_8 (Nat.le_refl 0) (Nat.le_refl 0)
def zf_X9_set (h : zc_H) (q : Nat) (x1 : Int32) (x2 : Int32) (x3 : Int64) : Option (zc_H × Int32) :=
  if ¬ zf_is h q 9 = true then none else
  (zf_X9_shelfAt h q x1).bind fun r1 =>
  if r1 = none then
    (zf_X9_refuse h q (-1)).bind fun r11 =>
    some (r11.1, r11.2)
  else
  (zf_X9_unfitAsRow h r1).bind fun r3 =>
  if r3 = 0 then
    r1.bind fun a5 =>
    (zf_X5_hasElement h a5 x2).bind fun r6 =>
    if r6 = 0 then
      (zf_X9_refuse h q (-5)).bind fun r9 =>
      some (r9.1, r9.2)
    else
    (zf_X5_store h a5 x2 x3).bind fun r8 =>
    some (r8, 1)
  else
  (zf_X9_refuse h q r3).bind fun r10 =>
  some (r10.1, r10.2)
abbrev zr_X9_set : Room := { frames := 3, cells := 0, slots := 0, locals := 64 }
theorem zi_X9_set {h : zc_H} {q : Nat} {x1 : Int32} {x2 : Int32} {x3 : Int64} {res : zc_H × Int32} (hf : zf_X9_set h q x1 x2 x3 = some res) : zf_is h q 9 = true := Decidable.not_not.mp (zo_n hf).1
set_option maxHeartbeats 4000000 in
set_option maxRecDepth 20000 in
theorem zt_X9_set (l : Launch) (g : zc_G) (h : zc_H) (q : Nat) (x1 : Int32) (x2 : Int32) (x3 : Int64) (res : zc_H × Int32) (hf : zf_X9_set h q x1 x2 x3 = some res) : zc_M l g yX9_set cX9_set 7 (some .int) zr_X9_set h [va_rf ((some q)), .int (x1), .int (x2), .long (x3)] res.1 (some (.int (res.2))) := by
  refine zc_M.of (by decide) (by simp [lg_sl, zv_cat, zv_ci, zv_cj]) ?_
  intro p e s m below meth c ls S hK hw hr hlk hnm hl
  replace S : CallFix p m c cX9_set 7 s [va_rf ((some q)), .int (x1), .int (x2), .long (x3)].toArray (zc_ws yX9_set cX9_set 7 (some .int)) RX9 := S
  have hx := S.1
  have hb := S.2.1
  replace hl : lv_has ls 7 [(0, va_rf ((some q))), (1, .int (x1)), (2, .int (x2)), (3, .long (x3))] := by simpa [lv_args, zv_cat, zv_ci, zv_cj] using hl
  generalize s.heap = H at hw ⊢
  obtain ⟨locs, hlocs⟩ : ∃ L : List Loc, L = [] := ⟨_, rfl⟩
  rw [← hlocs] at hw ⊢
  unfold zf_X9_set at hf
  obtain ⟨-, hf⟩ := zo_n hf
  refine zl_aload_n hx hb zd_X9_set_0 rfl (lv_at hl 0 rfl) ?_
  refine lv_iload_n hx hb zd_X9_set_1 rfl (lv_at hl 1 rfl) ?_
  replace hf := zo_b hf; obtain ⟨r1, er1, hf⟩ := hf
  refine zw_callV (n := 1) (ci := 9) (q := zc_cl[9]) (As := [.int (x1)]) (rest := []) S hK hw (zt_X9_shelfAt l g h q x1 _ er1) zm_345 zm_347 zm_0 zq_X9_shelfAt zm_68 (by decide +kernel) ⟨Nat.le_of_ble_eq_true rfl, Nat.le_of_ble_eq_true rfl⟩ rfl rfl rfl (zi_X9_shelfAt er1) hl.1 rfl (by simp [zv_cat, zv_ci, zv_cj]) zd_X9_set_2 ⟨(Nat.le_refl 0), (Nat.le_refl 0)⟩ (fun H locs hw => ?_)
  replace hw : zc_W g h H locs := hw
  refine zl_astore (i := 5) (lv' := [(5, va_rf (r1)), (0, va_rf ((some q))), (1, .int (x1)), (2, .int (x2)), (3, .long (x3))]) hx hb zd_X9_set_5 hl (by decide) rfl (fun ls hl => ?_)
  refine zl_aload hx hb zd_X9_set_7 (lv_at hl 0 rfl) ?_
  refine zl_ifnonnull (tgt := 18) hx hb zd_X9_set_9 (by decide) (fun c2 => ?_) (fun c2 => ?_)
  · replace hf := zo_f c2 hf
    refine zl_aload hx hb zd_X9_set_18 (lv_at hl 0 rfl) ?_
    replace hf := zo_b hf; obtain ⟨r3, er3, hf⟩ := hf
    refine zw_callS (n := 1) (As := [va_rf (r1)]) (rest := []) S hK hw (zt_X9_unfitAsRow l g h r1 _ er3) zm_364 zm_365 zq_X9_unfitAsRow zm_68 (by decide +kernel) ⟨Nat.le_of_ble_eq_true rfl, Nat.le_of_ble_eq_true rfl⟩ rfl hl.1 rfl (by simp [zv_cat, zv_ci, zv_cj]) zd_X9_set_20 ⟨(Nat.le_refl 0), (Nat.le_refl 0)⟩ (fun H locs hw => ?_)
    replace hw : zc_W g h H locs := hw
    refine lv_istore (i := 6) (lv' := [(6, .int (r3)), (5, va_rf (r1)), (0, va_rf ((some q))), (1, .int (x1)), (2, .int (x2)), (3, .long (x3))]) hx hb zd_X9_set_23 hl (by decide) (by simp [List.filter, zv_cat, zv_ci, zv_cj]) (fun ls hl => ?_)
    refine lv_iload hx hb zd_X9_set_25 (lv_at hl 0 rfl) ?_
    refine lv_if_eq (tgt := 37) hx hb zd_X9_set_27 (by decide) (fun c4 => ?_) (fun c4 => ?_)
    · replace hf := zo_t c4 hf
      refine zl_aload hx hb zd_X9_set_37 (lv_at hl 1 rfl) ?_
      refine lv_iload_n hx hb zd_X9_set_39 rfl (lv_at hl 4 rfl) ?_
      replace hf := zo_b hf; obtain ⟨a5, na5, hf⟩ := hf
      refine W.eq (g2 := F0 m 40 ls [.int (x2), va_rf ((some a5))]) (by rw [na5] <;> rfl) ?_
      replace hf := zo_b hf; obtain ⟨r6, er6, hf⟩ := hf
      refine zw_callV (n := 1) (ci := 5) (q := zc_cl[5]) (As := [.int (x2)]) (rest := []) S hK hw (zt_X5_hasElement l g h a5 x2 _ er6) zm_375 zm_376 zm_377 zq_X5_hasElement zm_78 (by decide +kernel) ⟨Nat.le_of_ble_eq_true rfl, Nat.le_of_ble_eq_true rfl⟩ rfl rfl rfl (zi_X5_hasElement er6) hl.1 rfl (by simp [zv_cat, zv_ci, zv_cj]) zd_X9_set_40 ⟨(Nat.le_refl 0), (Nat.le_refl 0)⟩ (fun H locs hw => ?_)
      replace hw : zc_W g h H locs := hw
      refine lv_if_ne (tgt := 53) hx hb zd_X9_set_43 (by decide) (fun c7 => ?_) (fun c7 => ?_)
      · replace hf := zo_f c7 hf
        refine zl_aload hx hb zd_X9_set_53 (lv_at hl 1 rfl) ?_
        refine lv_iload_n hx hb zd_X9_set_55 rfl (lv_at hl 4 rfl) ?_
        refine lv_lload_n hx hb zd_X9_set_56 rfl (lv_at hl 5 rfl) ?_
        refine W.eq (g2 := F0 m 57 ls [.long (x3), .int (x2), va_rf ((some a5))]) (by rw [na5] <;> rfl) ?_
        replace hf := zo_b hf; obtain ⟨r8, er8, hf⟩ := hf
        refine zw_callV (n := 2) (ci := 5) (q := zc_cl[5]) (As := [.int (x2), .long (x3)]) (rest := []) S hK hw (zt_X5_store l g h a5 x2 x3 _ er8) zm_380 zm_381 zm_382 zq_X5_store zm_78 (by decide +kernel) ⟨Nat.le_of_ble_eq_true rfl, Nat.le_of_ble_eq_true rfl⟩ rfl rfl rfl (zi_X5_store er8) hl.1 rfl (by simp [zv_cat, zv_ci, zv_cj]) zd_X9_set_57 ⟨(Nat.le_refl 0), (Nat.le_refl 0)⟩ (fun H locs hw => ?_)
        replace hw : zc_W g r8 H locs := hw
        refine lv_iconst (v := 1) hx hb zd_X9_set_60 (by decide) ?_
        have hres := Option.some.inj hf; subst hres
        exact zw_iret (v := 1) (ty := .int) hx hb hr hlk rfl hw zd_X9_set_61 (Nat.le_refl 0) (Nat.le_refl 0)
      · replace hf := zo_t c7 hf
        refine zl_aload_n hx hb zd_X9_set_46 rfl (lv_at hl 2 rfl) ?_
        refine lv_bipush (v := (-5)) hx hb zd_X9_set_47 (by decide) ?_
        replace hf := zo_b hf; obtain ⟨r9, er9, hf⟩ := hf
        refine zw_callV (n := 1) (ci := 9) (q := zc_cl[9]) (As := [.int ((-5))]) (rest := []) S hK hw (zt_X9_refuse l g h q (-5) _ er9) zm_349 zm_351 zm_1 zq_X9_refuse zm_68 (by decide +kernel) ⟨Nat.le_of_ble_eq_true rfl, Nat.le_of_ble_eq_true rfl⟩ rfl rfl rfl (zi_X9_refuse er9) hl.1 rfl (by simp [zv_cat, zv_ci, zv_cj]) zd_X9_set_49 ⟨(Nat.le_refl 0), (Nat.le_refl 0)⟩ (fun H locs hw => ?_)
        replace hw : zc_W g r9.1 H locs := hw
        have hres := Option.some.inj hf; subst hres
        exact zw_iret (v := r9.2) (ty := .int) hx hb hr hlk rfl hw zd_X9_set_52 (Nat.le_refl 0) (Nat.le_refl 0)
    · replace hf := zo_f c4 hf
      refine zl_aload_n hx hb zd_X9_set_30 rfl (lv_at hl 2 rfl) ?_
      refine lv_iload hx hb zd_X9_set_31 (lv_at hl 0 rfl) ?_
      replace hf := zo_b hf; obtain ⟨r10, er10, hf⟩ := hf
      refine zw_callV (n := 1) (ci := 9) (q := zc_cl[9]) (As := [.int (r3)]) (rest := []) S hK hw (zt_X9_refuse l g h q r3 _ er10) zm_349 zm_351 zm_1 zq_X9_refuse zm_68 (by decide +kernel) ⟨Nat.le_of_ble_eq_true rfl, Nat.le_of_ble_eq_true rfl⟩ rfl rfl rfl (zi_X9_refuse er10) hl.1 rfl (by simp [zv_cat, zv_ci, zv_cj]) zd_X9_set_33 ⟨(Nat.le_refl 0), (Nat.le_refl 0)⟩ (fun H locs hw => ?_)
      replace hw : zc_W g r10.1 H locs := hw
      have hres := Option.some.inj hf; subst hres
      exact zw_iret (v := r10.2) (ty := .int) hx hb hr hlk rfl hw zd_X9_set_36 (Nat.le_refl 0) (Nat.le_refl 0)
  · replace hf := zo_t c2 hf
    refine zl_aload_n hx hb zd_X9_set_12 rfl (lv_at hl 1 rfl) ?_
    refine lv_iconst (v := (-1)) hx hb zd_X9_set_13 (by decide) ?_
    replace hf := zo_b hf; obtain ⟨r11, er11, hf⟩ := hf
    refine zw_callV (n := 1) (ci := 9) (q := zc_cl[9]) (As := [.int ((-1))]) (rest := []) S hK hw (zt_X9_refuse l g h q (-1) _ er11) zm_349 zm_351 zm_1 zq_X9_refuse zm_68 (by decide +kernel) ⟨Nat.le_of_ble_eq_true rfl, Nat.le_of_ble_eq_true rfl⟩ rfl rfl rfl (zi_X9_refuse er11) hl.1 rfl (by simp [zv_cat, zv_ci, zv_cj]) zd_X9_set_14 ⟨(Nat.le_refl 0), (Nat.le_refl 0)⟩ (fun H locs hw => ?_)
    replace hw : zc_W g r11.1 H locs := hw
    have hres := Option.some.inj hf; subst hres
    exact zw_iret (v := r11.2) (ty := .int) hx hb hr hlk rfl hw zd_X9_set_17 (Nat.le_refl 0) (Nat.le_refl 0)
def zf_X9_areOfTwoSorts (h : zc_H) (x0 : Option Nat) (x1 : Option Nat) : Option (Int32) :=
  x0.bind fun a1 =>
  (zf_X5_hasRow h a1).bind fun r2 =>
  if r2 = 0 then
    some 0
  else
  x1.bind fun a4 =>
  (zf_X5_hasRow h a4).bind fun r5 =>
  if r5 = 0 then
    some 0
  else
  (zf_gi h a1 5 0).bind fun v7 =>
  (zf_gi h a4 5 0).bind fun v9 =>
  if v7 = v9 then
    some 0
  else
  some 1
abbrev zr_X9_areOfTwoSorts : Room := { frames := 1, cells := 0, slots := 0, locals := 20 }
set_option maxHeartbeats 4000000 in
set_option maxRecDepth 20000 in
theorem zt_X9_areOfTwoSorts (l : Launch) (g : zc_G) (h : zc_H) (x0 : Option Nat) (x1 : Option Nat) (res : Int32) (hf : zf_X9_areOfTwoSorts h x0 x1 = some res) : zc_M l g yX9_areOfTwoSorts cX9_areOfTwoSorts 2 (some .boolean) zr_X9_areOfTwoSorts h [va_rf (x0), va_rf (x1)] h (some (.int (res))) := by
  refine zc_M.of (by decide) (by simp [lg_sl, zv_cat, zv_ci, zv_cj]) ?_
  intro p e s m below meth c ls S hK hw hr hlk hnm hl
  replace S : CallFix p m c cX9_areOfTwoSorts 2 s [va_rf (x0), va_rf (x1)].toArray (zc_ws yX9_areOfTwoSorts cX9_areOfTwoSorts 2 (some .boolean)) RX9 := S
  have hx := S.1
  have hb := S.2.1
  replace hl : lv_has ls 2 [(0, va_rf (x0)), (1, va_rf (x1))] := by simpa [lv_args, zv_cat, zv_ci, zv_cj] using hl
  generalize s.heap = H at hw ⊢
  obtain ⟨locs, hlocs⟩ : ∃ L : List Loc, L = [] := ⟨_, rfl⟩
  rw [← hlocs] at hw ⊢
  unfold zf_X9_areOfTwoSorts at hf
  refine zl_aload_n hx hb zd_X9_areOfTwoSorts_0 rfl (lv_at hl 0 rfl) ?_
  replace hf := zo_b hf; obtain ⟨a1, na1, hf⟩ := hf
  refine W.eq (g2 := F0 m 1 ls [va_rf ((some a1))]) (by rw [na1] <;> rfl) ?_
  replace hf := zo_b hf; obtain ⟨r2, er2, hf⟩ := hf
  refine zw_callV (n := 0) (ci := 5) (q := zc_cl[5]) (As := []) (rest := []) S hK hw (zt_X5_hasRow l g h a1 _ er2) zm_367 zm_368 zm_369 zq_X5_hasRow zm_78 (by decide +kernel) ⟨Nat.le_of_ble_eq_true rfl, Nat.le_of_ble_eq_true rfl⟩ rfl rfl rfl (zi_X5_hasRow er2) hl.1 rfl (by simp [zv_cat, zv_ci, zv_cj]) zd_X9_areOfTwoSorts_1 ⟨(Nat.le_refl 0), (Nat.le_refl 0)⟩ (fun H locs hw => ?_)
  replace hw : zc_W g h H locs := hw
  refine lv_if_eq (tgt := 29) hx hb zd_X9_areOfTwoSorts_4 (by decide) (fun c3 => ?_) (fun c3 => ?_)
  · replace hf := zo_t c3 hf
    refine lv_iconst (v := 0) hx hb zd_X9_areOfTwoSorts_29 (by decide) ?_
    have hres := Option.some.inj hf; subst hres
    exact zw_iret (v := 0) (ty := .boolean) hx hb hr hlk rfl hw zd_X9_areOfTwoSorts_30 (Nat.le_refl 0) (Nat.le_refl 0)
  · replace hf := zo_f c3 hf
    refine zl_aload_n hx hb zd_X9_areOfTwoSorts_7 rfl (lv_at hl 1 rfl) ?_
    replace hf := zo_b hf; obtain ⟨a4, na4, hf⟩ := hf
    refine W.eq (g2 := F0 m 8 ls [va_rf ((some a4))]) (by rw [na4] <;> rfl) ?_
    replace hf := zo_b hf; obtain ⟨r5, er5, hf⟩ := hf
    refine zw_callV (n := 0) (ci := 5) (q := zc_cl[5]) (As := []) (rest := []) S hK hw (zt_X5_hasRow l g h a4 _ er5) zm_367 zm_368 zm_369 zq_X5_hasRow zm_78 (by decide +kernel) ⟨Nat.le_of_ble_eq_true rfl, Nat.le_of_ble_eq_true rfl⟩ rfl rfl rfl (zi_X5_hasRow er5) hl.1 rfl (by simp [zv_cat, zv_ci, zv_cj]) zd_X9_areOfTwoSorts_8 ⟨(Nat.le_refl 0), (Nat.le_refl 0)⟩ (fun H locs hw => ?_)
    replace hw : zc_W g h H locs := hw
    refine lv_if_eq (tgt := 29) hx hb zd_X9_areOfTwoSorts_11 (by decide) (fun c6 => ?_) (fun c6 => ?_)
    · replace hf := zo_t c6 hf
      refine lv_iconst (v := 0) hx hb zd_X9_areOfTwoSorts_29 (by decide) ?_
      have hres := Option.some.inj hf; subst hres
      exact zw_iret (v := 0) (ty := .boolean) hx hb hr hlk rfl hw zd_X9_areOfTwoSorts_30 (Nat.le_refl 0) (Nat.le_refl 0)
    · replace hf := zo_f c6 hf
      refine zl_aload_n hx hb zd_X9_areOfTwoSorts_14 rfl (lv_at hl 0 rfl) ?_
      refine W.eq (g2 := F0 m 15 ls [va_rf ((some a1))]) (by rw [na1] <;> rfl) ?_
      replace hf := zo_b hf; obtain ⟨v7, ev7, hf⟩ := hf
      obtain ⟨u8, u8e, u8v⟩ := zo_b ev7
      obtain rfl := zv_i_e u8v
      refine zw_get S hK hw zk_5 (k := 0) (by decide) rfl zm_295 (Or.inl rfl) u8e zd_X9_areOfTwoSorts_15 ?_
      refine zl_aload_n hx hb zd_X9_areOfTwoSorts_18 rfl (lv_at hl 1 rfl) ?_
      refine W.eq (g2 := F0 m 19 ls [va_rf ((some a4)), .int (v7)]) (by rw [na4] <;> rfl) ?_
      replace hf := zo_b hf; obtain ⟨v9, ev9, hf⟩ := hf
      obtain ⟨u10, u10e, u10v⟩ := zo_b ev9
      obtain rfl := zv_i_e u10v
      refine zw_get S hK hw zk_5 (k := 0) (by decide) rfl zm_295 (Or.inl rfl) u10e zd_X9_areOfTwoSorts_19 ?_
      refine lv_icmp_eq (tgt := 29) hx hb zd_X9_areOfTwoSorts_22 (by decide) (fun c11 => ?_) (fun c11 => ?_)
      · replace hf := zo_t c11 hf
        refine lv_iconst (v := 0) hx hb zd_X9_areOfTwoSorts_29 (by decide) ?_
        have hres := Option.some.inj hf; subst hres
        exact zw_iret (v := 0) (ty := .boolean) hx hb hr hlk rfl hw zd_X9_areOfTwoSorts_30 (Nat.le_refl 0) (Nat.le_refl 0)
      · replace hf := zo_f c11 hf
        refine lv_iconst (v := 1) hx hb zd_X9_areOfTwoSorts_25 (by decide) ?_
        refine lv_goto (tgt := 30) hx hb zd_X9_areOfTwoSorts_26 (by decide) ?_
        have hres := Option.some.inj hf; subst hres
        exact zw_iret (v := 1) (ty := .boolean) hx hb hr hlk rfl hw zd_X9_areOfTwoSorts_30 (Nat.le_refl 0) (Nat.le_refl 0)
def zf_X9_copy (h : zc_H) (q : Nat) (x1 : Int32) (x2 : Int32) (x3 : Int32) (x4 : Int32) (x5 : Int32) : Option (zc_H × Int32) :=
  if ¬ zf_is h q 9 = true then none else
  (zf_X9_shelfAt h q x1).bind fun r1 =>
  (zf_X9_shelfAt h q x2).bind fun r2 =>
  let k24 := fun (_ : Unit) =>
    (zf_X9_refuse h q (-1)).bind fun r4 =>
    some (r4.1, r4.2)
  if r1 = none then
    k24 ()
  else
  if r2 = none then
    k24 ()
  else
  r1.bind fun a6 =>
  (zf_X5_hasRemark h a6).bind fun r7 =>
  let k56 := fun (_ : Unit) =>
    (zf_X9_refuse h q (-2)).bind fun r9 =>
    some (r9.1, r9.2)
  if r7 = 0 then
    r2.bind fun a10 =>
    (zf_X5_hasRemark h a10).bind fun r11 =>
    if r11 = 0 then
      (zf_X9_areOfTwoSorts h r1 r2).bind fun r13 =>
      if r13 = 0 then
        (zf_X5_hasRow h a6).bind fun r15 =>
        let k79 := fun (_ : Unit) =>
          (zf_X9_refuse h q (-3)).bind fun r17 =>
          some (r17.1, r17.2)
        if r15 = 0 then
          k79 ()
        else
        (zf_X5_hasRow h a10).bind fun r18 =>
        if r18 = 0 then
          k79 ()
        else
        if 0 ≤ x5 then
          (zf_X5_hasStretch h a6 x3 x5).bind fun r21 =>
          let k121 := fun (_ : Unit) =>
            (zf_X9_refuse h q (-5)).bind fun r23 =>
            some (r23.1, r23.2)
          if r21 = 0 then
            k121 ()
          else
          (zf_X5_hasStretch h a10 x4 x5).bind fun r24 =>
          if r24 = 0 then
            k121 ()
          else
          (zf_X5_takeStretch h a10 r1 x3 x4 x5).bind fun r26 =>
          some (r26, 1)
        else
        (zf_X9_refuse h q (-4)).bind fun r27 =>
        some (r27.1, r27.2)
      else
      k56 ()
    else
    k56 ()
  else
  k56 ()
abbrev zr_X9_copy : Room := { frames := 3, cells := 0, slots := 0, locals := 84 }
theorem zi_X9_copy {h : zc_H} {q : Nat} {x1 : Int32} {x2 : Int32} {x3 : Int32} {x4 : Int32} {x5 : Int32} {res : zc_H × Int32} (hf : zf_X9_copy h q x1 x2 x3 x4 x5 = some res) : zf_is h q 9 = true := Decidable.not_not.mp (zo_n hf).1
set_option maxHeartbeats 4000000 in
set_option maxRecDepth 20000 in
theorem zt_X9_copy (l : Launch) (g : zc_G) (h : zc_H) (q : Nat) (x1 : Int32) (x2 : Int32) (x3 : Int32) (x4 : Int32) (x5 : Int32) (res : zc_H × Int32) (hf : zf_X9_copy h q x1 x2 x3 x4 x5 = some res) : zc_M l g yX9_copy cX9_copy 8 (some .int) zr_X9_copy h [va_rf ((some q)), .int (x1), .int (x2), .int (x3), .int (x4), .int (x5)] res.1 (some (.int (res.2))) := by
  refine zc_M.of (by decide) (by simp [lg_sl, zv_cat, zv_ci, zv_cj]) ?_
  intro p e s m below meth c ls S hK hw hr hlk hnm hl
  replace S : CallFix p m c cX9_copy 8 s [va_rf ((some q)), .int (x1), .int (x2), .int (x3), .int (x4), .int (x5)].toArray (zc_ws yX9_copy cX9_copy 8 (some .int)) RX9 := S
  have hx := S.1
  have hb := S.2.1
  replace hl : lv_has ls 8 [(0, va_rf ((some q))), (1, .int (x1)), (2, .int (x2)), (3, .int (x3)), (4, .int (x4)), (5, .int (x5))] := by simpa [lv_args, zv_cat, zv_ci, zv_cj] using hl
  generalize s.heap = H at hw ⊢
  obtain ⟨locs, hlocs⟩ : ∃ L : List Loc, L = [] := ⟨_, rfl⟩
  rw [← hlocs] at hw ⊢
  unfold zf_X9_copy at hf
  obtain ⟨-, hf⟩ := zo_n hf
  refine zl_aload_n hx hb zd_X9_copy_0 rfl (lv_at hl 0 rfl) ?_
  refine lv_iload_n hx hb zd_X9_copy_1 rfl (lv_at hl 1 rfl) ?_
  replace hf := zo_b hf; obtain ⟨r1, er1, hf⟩ := hf
  refine zw_callV (n := 1) (ci := 9) (q := zc_cl[9]) (As := [.int (x1)]) (rest := []) S hK hw (zt_X9_shelfAt l g h q x1 _ er1) zm_345 zm_347 zm_0 zq_X9_shelfAt zm_68 (by decide +kernel) ⟨Nat.le_of_ble_eq_true rfl, Nat.le_of_ble_eq_true rfl⟩ rfl rfl rfl (zi_X9_shelfAt er1) hl.1 rfl (by simp [zv_cat, zv_ci, zv_cj]) zd_X9_copy_2 ⟨(Nat.le_refl 0), (Nat.le_refl 0)⟩ (fun H locs hw => ?_)
  replace hw : zc_W g h H locs := hw
  refine zl_astore (i := 6) (lv' := [(6, va_rf (r1)), (0, va_rf ((some q))), (1, .int (x1)), (2, .int (x2)), (3, .int (x3)), (4, .int (x4)), (5, .int (x5))]) hx hb zd_X9_copy_5 hl (by decide) rfl (fun ls hl => ?_)
  refine zl_aload_n hx hb zd_X9_copy_7 rfl (lv_at hl 1 rfl) ?_
  refine lv_iload_n hx hb zd_X9_copy_8 rfl (lv_at hl 3 rfl) ?_
  replace hf := zo_b hf; obtain ⟨r2, er2, hf⟩ := hf
  refine zw_callV (n := 1) (ci := 9) (q := zc_cl[9]) (As := [.int (x2)]) (rest := []) S hK hw (zt_X9_shelfAt l g h q x2 _ er2) zm_345 zm_347 zm_0 zq_X9_shelfAt zm_68 (by decide +kernel) ⟨Nat.le_of_ble_eq_true rfl, Nat.le_of_ble_eq_true rfl⟩ rfl rfl rfl (zi_X9_shelfAt er2) hl.1 rfl (by simp [zv_cat, zv_ci, zv_cj]) zd_X9_copy_9 ⟨(Nat.le_refl 0), (Nat.le_refl 0)⟩ (fun H locs hw => ?_)
  replace hw : zc_W g h H locs := hw
  refine zl_astore (i := 7) (lv' := [(7, va_rf (r2)), (6, va_rf (r1)), (0, va_rf ((some q))), (1, .int (x1)), (2, .int (x2)), (3, .int (x3)), (4, .int (x4)), (5, .int (x5))]) hx hb zd_X9_copy_12 hl (by decide) (by simp [List.filter, zv_cat, zv_ci, zv_cj]) (fun ls hl => ?_)
  refine zl_aload hx hb zd_X9_copy_14 (lv_at hl 1 rfl) ?_
  have k24h : ∀ (_ : Unit) (H : Heap) (locs : List Loc) (ls : Array Slot), (
      (zf_X9_refuse h q (-1)).bind fun r4 =>
      some (r4.1, r4.2)
      ) = some res → zc_W g h H locs → lv_has ls 8 [(0, va_rf ((some q)))] → W p l e zr_X9_copy s m [va_rf ((some q)), .int (x1), .int (x2), .int (x3), .int (x4), .int (x5)].toArray below meth c H locs ((0 + 0) + 0) ((0 + 0) + 0) (zc_Q g below zr_X9_copy (some (.int (res.2))) res.1 [va_rf ((some q)), .int (x1), .int (x2), .int (x3), .int (x4), .int (x5)] s) (F0 m 24 ls []) := by
    intro _ H locs ls hf hw hl
    refine zl_aload_n hx hb zd_X9_copy_24 rfl (lv_at hl 0 rfl) ?_
    refine lv_iconst (v := (-1)) hx hb zd_X9_copy_25 (by decide) ?_
    replace hf := zo_b hf; obtain ⟨r4, er4, hf⟩ := hf
    refine zw_callV (n := 1) (ci := 9) (q := zc_cl[9]) (As := [.int ((-1))]) (rest := []) S hK hw (zt_X9_refuse l g h q (-1) _ er4) zm_349 zm_351 zm_1 zq_X9_refuse zm_68 (by decide +kernel) ⟨Nat.le_of_ble_eq_true rfl, Nat.le_of_ble_eq_true rfl⟩ rfl rfl rfl (zi_X9_refuse er4) hl.1 rfl (by simp [zv_cat, zv_ci, zv_cj]) zd_X9_copy_26 ⟨(Nat.le_refl 0), (Nat.le_refl 0)⟩ (fun H locs hw => ?_)
    replace hw : zc_W g r4.1 H locs := hw
    have hres := Option.some.inj hf; subst hres
    exact zw_iret (v := r4.2) (ty := .int) hx hb hr hlk rfl hw zd_X9_copy_29 (Nat.le_refl 0) (Nat.le_refl 0)
  refine zl_ifnull (tgt := 24) hx hb zd_X9_copy_16 (by decide) (fun c3 => ?_) (fun c3 => ?_)
  · replace hf := zo_t c3 hf
    exact k24h () _ _ _ hf hw (lv_sub hl [2] rfl)
  · replace hf := zo_f c3 hf
    refine zl_aload hx hb zd_X9_copy_19 (lv_at hl 0 rfl) ?_
    refine zl_ifnonnull (tgt := 30) hx hb zd_X9_copy_21 (by decide) (fun c5 => ?_) (fun c5 => ?_)
    · replace hf := zo_f c5 hf
      refine zl_aload hx hb zd_X9_copy_30 (lv_at hl 1 rfl) ?_
      replace hf := zo_b hf; obtain ⟨a6, na6, hf⟩ := hf
      refine W.eq (g2 := F0 m 32 ls [va_rf ((some a6))]) (by rw [na6] <;> rfl) ?_
      replace hf := zo_b hf; obtain ⟨r7, er7, hf⟩ := hf
      refine zw_callV (n := 0) (ci := 5) (q := zc_cl[5]) (As := []) (rest := []) S hK hw (zt_X5_hasRemark l g h a6 _ er7) zm_371 zm_372 zm_373 zq_X5_hasRemark zm_78 (by decide +kernel) ⟨Nat.le_of_ble_eq_true rfl, Nat.le_of_ble_eq_true rfl⟩ rfl rfl rfl (zi_X5_hasRemark er7) hl.1 rfl (by simp [zv_cat, zv_ci, zv_cj]) zd_X9_copy_32 ⟨(Nat.le_refl 0), (Nat.le_refl 0)⟩ (fun H locs hw => ?_)
      replace hw : zc_W g h H locs := hw
      have k56h : ∀ (_ : Unit) (H : Heap) (locs : List Loc) (ls : Array Slot), (
          (zf_X9_refuse h q (-2)).bind fun r9 =>
          some (r9.1, r9.2)
          ) = some res → zc_W g h H locs → lv_has ls 8 [(0, va_rf ((some q)))] → W p l e zr_X9_copy s m [va_rf ((some q)), .int (x1), .int (x2), .int (x3), .int (x4), .int (x5)].toArray below meth c H locs (((0 + 0) + 0) + 0) (((0 + 0) + 0) + 0) (zc_Q g below zr_X9_copy (some (.int (res.2))) res.1 [va_rf ((some q)), .int (x1), .int (x2), .int (x3), .int (x4), .int (x5)] s) (F0 m 56 ls []) := by
        intro _ H locs ls hf hw hl
        refine zl_aload_n hx hb zd_X9_copy_56 rfl (lv_at hl 0 rfl) ?_
        refine lv_bipush (v := (-2)) hx hb zd_X9_copy_57 (by decide) ?_
        replace hf := zo_b hf; obtain ⟨r9, er9, hf⟩ := hf
        refine zw_callV (n := 1) (ci := 9) (q := zc_cl[9]) (As := [.int ((-2))]) (rest := []) S hK hw (zt_X9_refuse l g h q (-2) _ er9) zm_349 zm_351 zm_1 zq_X9_refuse zm_68 (by decide +kernel) ⟨Nat.le_of_ble_eq_true rfl, Nat.le_of_ble_eq_true rfl⟩ rfl rfl rfl (zi_X9_refuse er9) hl.1 rfl (by simp [zv_cat, zv_ci, zv_cj]) zd_X9_copy_59 ⟨(Nat.le_refl 0), (Nat.le_refl 0)⟩ (fun H locs hw => ?_)
        replace hw : zc_W g r9.1 H locs := hw
        have hres := Option.some.inj hf; subst hres
        exact zw_iret (v := r9.2) (ty := .int) hx hb hr hlk rfl hw zd_X9_copy_62 (Nat.le_refl 0) (Nat.le_refl 0)
      refine lv_if_ne (tgt := 56) hx hb zd_X9_copy_35 (by decide) (fun c8 => ?_) (fun c8 => ?_)
      · replace hf := zo_f c8 hf
        exact k56h () _ _ _ hf hw (lv_sub hl [2] rfl)
      · replace hf := zo_t c8 hf
        refine zl_aload hx hb zd_X9_copy_38 (lv_at hl 0 rfl) ?_
        replace hf := zo_b hf; obtain ⟨a10, na10, hf⟩ := hf
        refine W.eq (g2 := F0 m 40 ls [va_rf ((some a10))]) (by rw [na10] <;> rfl) ?_
        replace hf := zo_b hf; obtain ⟨r11, er11, hf⟩ := hf
        refine zw_callV (n := 0) (ci := 5) (q := zc_cl[5]) (As := []) (rest := []) S hK hw (zt_X5_hasRemark l g h a10 _ er11) zm_371 zm_372 zm_373 zq_X5_hasRemark zm_78 (by decide +kernel) ⟨Nat.le_of_ble_eq_true rfl, Nat.le_of_ble_eq_true rfl⟩ rfl rfl rfl (zi_X5_hasRemark er11) hl.1 rfl (by simp [zv_cat, zv_ci, zv_cj]) zd_X9_copy_40 ⟨(Nat.le_refl 0), (Nat.le_refl 0)⟩ (fun H locs hw => ?_)
        replace hw : zc_W g h H locs := hw
        refine lv_if_ne (tgt := 56) hx hb zd_X9_copy_43 (by decide) (fun c12 => ?_) (fun c12 => ?_)
        · replace hf := zo_f c12 hf
          exact k56h () _ _ _ hf hw (lv_sub hl [2] rfl)
        · replace hf := zo_t c12 hf
          refine zl_aload hx hb zd_X9_copy_46 (lv_at hl 1 rfl) ?_
          refine zl_aload hx hb zd_X9_copy_48 (lv_at hl 0 rfl) ?_
          replace hf := zo_b hf; obtain ⟨r13, er13, hf⟩ := hf
          refine zw_callS (n := 2) (As := [va_rf (r1), va_rf (r2)]) (rest := []) S hK hw (zt_X9_areOfTwoSorts l g h r1 r2 _ er13) zm_393 zm_394 zq_X9_areOfTwoSorts zm_68 (by decide +kernel) ⟨Nat.le_of_ble_eq_true rfl, Nat.le_of_ble_eq_true rfl⟩ rfl hl.1 rfl (by simp [zv_cat, zv_ci, zv_cj]) zd_X9_copy_50 ⟨(Nat.le_refl 0), (Nat.le_refl 0)⟩ (fun H locs hw => ?_)
          replace hw : zc_W g h H locs := hw
          refine lv_if_eq (tgt := 63) hx hb zd_X9_copy_53 (by decide) (fun c14 => ?_) (fun c14 => ?_)
          · replace hf := zo_t c14 hf
            refine zl_aload hx hb zd_X9_copy_63 (lv_at hl 1 rfl) ?_
            refine W.eq (g2 := F0 m 65 ls [va_rf ((some a6))]) (by rw [na6] <;> rfl) ?_
            replace hf := zo_b hf; obtain ⟨r15, er15, hf⟩ := hf
            refine zw_callV (n := 0) (ci := 5) (q := zc_cl[5]) (As := []) (rest := []) S hK hw (zt_X5_hasRow l g h a6 _ er15) zm_367 zm_368 zm_369 zq_X5_hasRow zm_78 (by decide +kernel) ⟨Nat.le_of_ble_eq_true rfl, Nat.le_of_ble_eq_true rfl⟩ rfl rfl rfl (zi_X5_hasRow er15) hl.1 rfl (by simp [zv_cat, zv_ci, zv_cj]) zd_X9_copy_65 ⟨(Nat.le_refl 0), (Nat.le_refl 0)⟩ (fun H locs hw => ?_)
            replace hw : zc_W g h H locs := hw
            have k79h : ∀ (_ : Unit) (H : Heap) (locs : List Loc) (ls : Array Slot), (
                (zf_X9_refuse h q (-3)).bind fun r17 =>
                some (r17.1, r17.2)
                ) = some res → zc_W g h H locs → lv_has ls 8 [(0, va_rf ((some q)))] → W p l e zr_X9_copy s m [va_rf ((some q)), .int (x1), .int (x2), .int (x3), .int (x4), .int (x5)].toArray below meth c H locs ((((((0 + 0) + 0) + 0) + 0) + 0) + 0) ((((((0 + 0) + 0) + 0) + 0) + 0) + 0) (zc_Q g below zr_X9_copy (some (.int (res.2))) res.1 [va_rf ((some q)), .int (x1), .int (x2), .int (x3), .int (x4), .int (x5)] s) (F0 m 79 ls []) := by
              intro _ H locs ls hf hw hl
              refine zl_aload_n hx hb zd_X9_copy_79 rfl (lv_at hl 0 rfl) ?_
              refine lv_bipush (v := (-3)) hx hb zd_X9_copy_80 (by decide) ?_
              replace hf := zo_b hf; obtain ⟨r17, er17, hf⟩ := hf
              refine zw_callV (n := 1) (ci := 9) (q := zc_cl[9]) (As := [.int ((-3))]) (rest := []) S hK hw (zt_X9_refuse l g h q (-3) _ er17) zm_349 zm_351 zm_1 zq_X9_refuse zm_68 (by decide +kernel) ⟨Nat.le_of_ble_eq_true rfl, Nat.le_of_ble_eq_true rfl⟩ rfl rfl rfl (zi_X9_refuse er17) hl.1 rfl (by simp [zv_cat, zv_ci, zv_cj]) zd_X9_copy_82 ⟨(Nat.le_refl 0), (Nat.le_refl 0)⟩ (fun H locs hw => ?_)
              replace hw : zc_W g r17.1 H locs := hw
              have hres := Option.some.inj hf; subst hres
              exact zw_iret (v := r17.2) (ty := .int) hx hb hr hlk rfl hw zd_X9_copy_85 (Nat.le_refl 0) (Nat.le_refl 0)
            refine lv_if_eq (tgt := 79) hx hb zd_X9_copy_68 (by decide) (fun c16 => ?_) (fun c16 => ?_)
            · replace hf := zo_t c16 hf
              exact k79h () _ _ _ hf hw (lv_sub hl [2] rfl)
            · replace hf := zo_f c16 hf
              refine zl_aload hx hb zd_X9_copy_71 (lv_at hl 0 rfl) ?_
              refine W.eq (g2 := F0 m 73 ls [va_rf ((some a10))]) (by rw [na10] <;> rfl) ?_
              replace hf := zo_b hf; obtain ⟨r18, er18, hf⟩ := hf
              refine zw_callV (n := 0) (ci := 5) (q := zc_cl[5]) (As := []) (rest := []) S hK hw (zt_X5_hasRow l g h a10 _ er18) zm_367 zm_368 zm_369 zq_X5_hasRow zm_78 (by decide +kernel) ⟨Nat.le_of_ble_eq_true rfl, Nat.le_of_ble_eq_true rfl⟩ rfl rfl rfl (zi_X5_hasRow er18) hl.1 rfl (by simp [zv_cat, zv_ci, zv_cj]) zd_X9_copy_73 ⟨(Nat.le_refl 0), (Nat.le_refl 0)⟩ (fun H locs hw => ?_)
              replace hw : zc_W g h H locs := hw
              refine lv_if_ne (tgt := 86) hx hb zd_X9_copy_76 (by decide) (fun c19 => ?_) (fun c19 => ?_)
              · replace hf := zo_f c19 hf
                refine lv_iload hx hb zd_X9_copy_86 (lv_at hl 7 rfl) ?_
                refine lv_if_ge (tgt := 98) hx hb zd_X9_copy_88 (by decide) (fun c20 => ?_) (fun c20 => ?_)
                · replace hf := zo_t c20 hf
                  refine zl_aload hx hb zd_X9_copy_98 (lv_at hl 1 rfl) ?_
                  refine lv_iload_n hx hb zd_X9_copy_100 rfl (lv_at hl 5 rfl) ?_
                  refine lv_iload hx hb zd_X9_copy_101 (lv_at hl 7 rfl) ?_
                  refine W.eq (g2 := F0 m 103 ls [.int (x5), .int (x3), va_rf ((some a6))]) (by rw [na6] <;> rfl) ?_
                  replace hf := zo_b hf; obtain ⟨r21, er21, hf⟩ := hf
                  refine zw_callV (n := 2) (ci := 5) (q := zc_cl[5]) (As := [.int (x3), .int (x5)]) (rest := []) S hK hw (zt_X5_hasStretch l g h a6 x3 x5 _ er21) zm_396 zm_397 zm_398 zq_X5_hasStretch zm_78 (by decide +kernel) ⟨Nat.le_of_ble_eq_true rfl, Nat.le_of_ble_eq_true rfl⟩ rfl rfl rfl (zi_X5_hasStretch er21) hl.1 rfl (by simp [zv_cat, zv_ci, zv_cj]) zd_X9_copy_103 ⟨(Nat.le_refl 0), (Nat.le_refl 0)⟩ (fun H locs hw => ?_)
                  replace hw : zc_W g h H locs := hw
                  have k121h : ∀ (_ : Unit) (H : Heap) (locs : List Loc) (ls : Array Slot), (
                      (zf_X9_refuse h q (-5)).bind fun r23 =>
                      some (r23.1, r23.2)
                      ) = some res → zc_W g h H locs → lv_has ls 8 [(0, va_rf ((some q)))] → W p l e zr_X9_copy s m [va_rf ((some q)), .int (x1), .int (x2), .int (x3), .int (x4), .int (x5)].toArray below meth c H locs ((((((((0 + 0) + 0) + 0) + 0) + 0) + 0) + 0) + 0) ((((((((0 + 0) + 0) + 0) + 0) + 0) + 0) + 0) + 0) (zc_Q g below zr_X9_copy (some (.int (res.2))) res.1 [va_rf ((some q)), .int (x1), .int (x2), .int (x3), .int (x4), .int (x5)] s) (F0 m 121 ls []) := by
                    intro _ H locs ls hf hw hl
                    refine zl_aload_n hx hb zd_X9_copy_121 rfl (lv_at hl 0 rfl) ?_
                    refine lv_bipush (v := (-5)) hx hb zd_X9_copy_122 (by decide) ?_
                    replace hf := zo_b hf; obtain ⟨r23, er23, hf⟩ := hf
                    refine zw_callV (n := 1) (ci := 9) (q := zc_cl[9]) (As := [.int ((-5))]) (rest := []) S hK hw (zt_X9_refuse l g h q (-5) _ er23) zm_349 zm_351 zm_1 zq_X9_refuse zm_68 (by decide +kernel) ⟨Nat.le_of_ble_eq_true rfl, Nat.le_of_ble_eq_true rfl⟩ rfl rfl rfl (zi_X9_refuse er23) hl.1 rfl (by simp [zv_cat, zv_ci, zv_cj]) zd_X9_copy_124 ⟨(Nat.le_refl 0), (Nat.le_refl 0)⟩ (fun H locs hw => ?_)
                    replace hw : zc_W g r23.1 H locs := hw
                    have hres := Option.some.inj hf; subst hres
                    exact zw_iret (v := r23.2) (ty := .int) hx hb hr hlk rfl hw zd_X9_copy_127 (Nat.le_refl 0) (Nat.le_refl 0)
                  refine lv_if_eq (tgt := 121) hx hb zd_X9_copy_106 (by decide) (fun c22 => ?_) (fun c22 => ?_)
                  · replace hf := zo_t c22 hf
                    exact k121h () _ _ _ hf hw (lv_sub hl [2] rfl)
                  · replace hf := zo_f c22 hf
                    refine zl_aload hx hb zd_X9_copy_109 (lv_at hl 0 rfl) ?_
                    refine lv_iload hx hb zd_X9_copy_111 (lv_at hl 6 rfl) ?_
                    refine lv_iload hx hb zd_X9_copy_113 (lv_at hl 7 rfl) ?_
                    refine W.eq (g2 := F0 m 115 ls [.int (x5), .int (x4), va_rf ((some a10))]) (by rw [na10] <;> rfl) ?_
                    replace hf := zo_b hf; obtain ⟨r24, er24, hf⟩ := hf
                    refine zw_callV (n := 2) (ci := 5) (q := zc_cl[5]) (As := [.int (x4), .int (x5)]) (rest := []) S hK hw (zt_X5_hasStretch l g h a10 x4 x5 _ er24) zm_396 zm_397 zm_398 zq_X5_hasStretch zm_78 (by decide +kernel) ⟨Nat.le_of_ble_eq_true rfl, Nat.le_of_ble_eq_true rfl⟩ rfl rfl rfl (zi_X5_hasStretch er24) hl.1 rfl (by simp [zv_cat, zv_ci, zv_cj]) zd_X9_copy_115 ⟨(Nat.le_refl 0), (Nat.le_refl 0)⟩ (fun H locs hw => ?_)
                    replace hw : zc_W g h H locs := hw
                    refine lv_if_ne (tgt := 128) hx hb zd_X9_copy_118 (by decide) (fun c25 => ?_) (fun c25 => ?_)
                    · replace hf := zo_f c25 hf
                      refine zl_aload hx hb zd_X9_copy_128 (lv_at hl 0 rfl) ?_
                      refine zl_aload hx hb zd_X9_copy_130 (lv_at hl 1 rfl) ?_
                      refine lv_iload_n hx hb zd_X9_copy_132 rfl (lv_at hl 5 rfl) ?_
                      refine lv_iload hx hb zd_X9_copy_133 (lv_at hl 6 rfl) ?_
                      refine lv_iload hx hb zd_X9_copy_135 (lv_at hl 7 rfl) ?_
                      refine W.eq (g2 := F0 m 137 ls [.int (x5), .int (x4), .int (x3), va_rf (r1), va_rf ((some a10))]) (by rw [na10] <;> rfl) ?_
                      replace hf := zo_b hf; obtain ⟨r26, er26, hf⟩ := hf
                      refine zw_callV (n := 4) (ci := 5) (q := zc_cl[5]) (As := [va_rf (r1), .int (x3), .int (x4), .int (x5)]) (rest := []) S hK hw (zt_X5_takeStretch l g h a10 r1 x3 x4 x5 _ er26) zm_400 zm_401 zm_402 zq_X5_takeStretch zm_78 (by decide +kernel) ⟨Nat.le_of_ble_eq_true rfl, Nat.le_of_ble_eq_true rfl⟩ rfl rfl rfl (zi_X5_takeStretch er26) hl.1 rfl (by simp [zv_cat, zv_ci, zv_cj]) zd_X9_copy_137 ⟨(Nat.le_refl 0), (Nat.le_refl 0)⟩ (fun H locs hw => ?_)
                      replace hw : zc_W g r26 H locs := hw
                      refine lv_iconst (v := 1) hx hb zd_X9_copy_140 (by decide) ?_
                      have hres := Option.some.inj hf; subst hres
                      exact zw_iret (v := 1) (ty := .int) hx hb hr hlk rfl hw zd_X9_copy_141 (Nat.le_refl 0) (Nat.le_refl 0)
                    · replace hf := zo_t c25 hf
                      exact k121h () _ _ _ hf hw (lv_sub hl [2] rfl)
                · replace hf := zo_f c20 hf
                  refine zl_aload_n hx hb zd_X9_copy_91 rfl (lv_at hl 2 rfl) ?_
                  refine lv_bipush (v := (-4)) hx hb zd_X9_copy_92 (by decide) ?_
                  replace hf := zo_b hf; obtain ⟨r27, er27, hf⟩ := hf
                  refine zw_callV (n := 1) (ci := 9) (q := zc_cl[9]) (As := [.int ((-4))]) (rest := []) S hK hw (zt_X9_refuse l g h q (-4) _ er27) zm_349 zm_351 zm_1 zq_X9_refuse zm_68 (by decide +kernel) ⟨Nat.le_of_ble_eq_true rfl, Nat.le_of_ble_eq_true rfl⟩ rfl rfl rfl (zi_X9_refuse er27) hl.1 rfl (by simp [zv_cat, zv_ci, zv_cj]) zd_X9_copy_94 ⟨(Nat.le_refl 0), (Nat.le_refl 0)⟩ (fun H locs hw => ?_)
                  replace hw : zc_W g r27.1 H locs := hw
                  have hres := Option.some.inj hf; subst hres
                  exact zw_iret (v := r27.2) (ty := .int) hx hb hr hlk rfl hw zd_X9_copy_97 (Nat.le_refl 0) (Nat.le_refl 0)
              · replace hf := zo_t c19 hf
                exact k79h () _ _ _ hf hw (lv_sub hl [2] rfl)
          · replace hf := zo_f c14 hf
            exact k56h () _ _ _ hf hw (lv_sub hl [2] rfl)
    · replace hf := zo_t c5 hf
      exact k24h () _ _ _ hf hw (lv_sub hl [2] rfl)
def zf_X9_element (h : zc_H) (q : Nat) (x1 : Int32) (x2 : Int32) : Option (Int64) :=
  if ¬ zf_is h q 9 = true then none else
  (zf_X9_shelfAt h q x1).bind fun r1 =>
  if r1 = none then
    some 0
  else
  r1.bind fun a3 =>
  (zf_X5_elementAt h a3 x2).bind fun r4 =>
  some r4
abbrev zr_X9_element : Room := { frames := 3, cells := 0, slots := 0, locals := 62 }
theorem zi_X9_element {h : zc_H} {q : Nat} {x1 : Int32} {x2 : Int32} {res : Int64} (hf : zf_X9_element h q x1 x2 = some res) : zf_is h q 9 = true := Decidable.not_not.mp (zo_n hf).1
set_option maxHeartbeats 4000000 in
set_option maxRecDepth 20000 in
theorem zt_X9_element (l : Launch) (g : zc_G) (h : zc_H) (q : Nat) (x1 : Int32) (x2 : Int32) (res : Int64) (hf : zf_X9_element h q x1 x2 = some res) : zc_M l g yX9_element cX9_element 4 (some .long) zr_X9_element h [va_rf ((some q)), .int (x1), .int (x2)] h (some (.long (res))) := by
  refine zc_M.of (by decide) (by simp [lg_sl, zv_cat, zv_ci, zv_cj]) ?_
  intro p e s m below meth c ls S hK hw hr hlk hnm hl
  replace S : CallFix p m c cX9_element 4 s [va_rf ((some q)), .int (x1), .int (x2)].toArray (zc_ws yX9_element cX9_element 4 (some .long)) RX9 := S
  have hx := S.1
  have hb := S.2.1
  replace hl : lv_has ls 4 [(0, va_rf ((some q))), (1, .int (x1)), (2, .int (x2))] := by simpa [lv_args, zv_cat, zv_ci, zv_cj] using hl
  generalize s.heap = H at hw ⊢
  obtain ⟨locs, hlocs⟩ : ∃ L : List Loc, L = [] := ⟨_, rfl⟩
  rw [← hlocs] at hw ⊢
  unfold zf_X9_element at hf
  obtain ⟨-, hf⟩ := zo_n hf
  refine zl_aload_n hx hb zd_X9_element_0 rfl (lv_at hl 0 rfl) ?_
  refine lv_iload_n hx hb zd_X9_element_1 rfl (lv_at hl 1 rfl) ?_
  replace hf := zo_b hf; obtain ⟨r1, er1, hf⟩ := hf
  refine zw_callV (n := 1) (ci := 9) (q := zc_cl[9]) (As := [.int (x1)]) (rest := []) S hK hw (zt_X9_shelfAt l g h q x1 _ er1) zm_345 zm_347 zm_0 zq_X9_shelfAt zm_68 (by decide +kernel) ⟨Nat.le_of_ble_eq_true rfl, Nat.le_of_ble_eq_true rfl⟩ rfl rfl rfl (zi_X9_shelfAt er1) hl.1 rfl (by simp [zv_cat, zv_ci, zv_cj]) zd_X9_element_2 ⟨(Nat.le_refl 0), (Nat.le_refl 0)⟩ (fun H locs hw => ?_)
  replace hw : zc_W g h H locs := hw
  refine zl_astore_n (i := 3) (lv' := [(3, va_rf (r1)), (0, va_rf ((some q))), (1, .int (x1)), (2, .int (x2))]) hx hb zd_X9_element_5 rfl hl (by decide) rfl (fun ls hl => ?_)
  refine zl_aload_n hx hb zd_X9_element_6 rfl (lv_at hl 0 rfl) ?_
  refine zl_ifnonnull (tgt := 14) hx hb zd_X9_element_7 (by decide) (fun c2 => ?_) (fun c2 => ?_)
  · replace hf := zo_f c2 hf
    refine zl_aload_n hx hb zd_X9_element_14 rfl (lv_at hl 0 rfl) ?_
    refine lv_iload_n hx hb zd_X9_element_15 rfl (lv_at hl 3 rfl) ?_
    replace hf := zo_b hf; obtain ⟨a3, na3, hf⟩ := hf
    refine W.eq (g2 := F0 m 16 ls [.int (x2), va_rf ((some a3))]) (by rw [na3] <;> rfl) ?_
    replace hf := zo_b hf; obtain ⟨r4, er4, hf⟩ := hf
    refine zw_callV (n := 1) (ci := 5) (q := zc_cl[5]) (As := [.int (x2)]) (rest := []) S hK hw (zt_X5_elementAt l g h a3 x2 _ er4) zm_412 zm_413 zm_414 zq_X5_elementAt zm_78 (by decide +kernel) ⟨Nat.le_of_ble_eq_true rfl, Nat.le_of_ble_eq_true rfl⟩ rfl rfl rfl (zi_X5_elementAt er4) hl.1 rfl (by simp [zv_cat, zv_ci, zv_cj]) zd_X9_element_16 ⟨(Nat.le_refl 0), (Nat.le_refl 0)⟩ (fun H locs hw => ?_)
    replace hw : zc_W g h H locs := hw
    have hres := Option.some.inj hf; subst hres
    exact zw_lret hx hb hr hlk hw zd_X9_element_19 (Nat.le_refl 0) (Nat.le_refl 0)
  · replace hf := zo_t c2 hf
    refine lv_lconst (v := 0) hx hb zd_X9_element_10 (by decide) ?_
    refine lv_goto (tgt := 19) hx hb zd_X9_element_11 (by decide) ?_
    have hres := Option.some.inj hf; subst hres
    exact zw_lret hx hb hr hlk hw zd_X9_element_19 (Nat.le_refl 0) (Nat.le_refl 0)
def zf_X9_show (h : zc_H) (q : Nat) (x1 : Int32) (x2 : Int32) : Option (zc_H × Int32) :=
  if ¬ zf_is h q 9 = true then none else
  (zf_X9_shelfAt h q x1).bind fun r1 =>
  let k26 := fun (_ : Unit) =>
    (zf_X9_refuse h q (-1)).bind fun r3 =>
    some (r3.1, r3.2)
  if r1 = none then
    k26 ()
  else
  let k32 := fun (_ : Unit) =>
    r1.bind fun a5 =>
    (zf_X5_hold h a5 x2).bind fun r6 =>
    if x2 = (-1) then
      some (r6, 0)
    else
    some (r6, 1)
  if x2 = (-1) then
    k32 ()
  else
  (zf_gr h q 9 1).bind fun v8 =>
  v8.bind fun a10 =>
  (zf_X6_remarkAt h a10 x2).bind fun r11 =>
  if r11 = none then
    k26 ()
  else
  k32 ()
abbrev zr_X9_show : Room := { frames := 4, cells := 0, slots := 0, locals := 85 }
theorem zi_X9_show {h : zc_H} {q : Nat} {x1 : Int32} {x2 : Int32} {res : zc_H × Int32} (hf : zf_X9_show h q x1 x2 = some res) : zf_is h q 9 = true := Decidable.not_not.mp (zo_n hf).1
set_option maxHeartbeats 4000000 in
set_option maxRecDepth 20000 in
theorem zt_X9_show (l : Launch) (g : zc_G) (h : zc_H) (q : Nat) (x1 : Int32) (x2 : Int32) (res : zc_H × Int32) (hf : zf_X9_show h q x1 x2 = some res) : zc_M l g yX9_show cX9_show 4 (some .int) zr_X9_show h [va_rf ((some q)), .int (x1), .int (x2)] res.1 (some (.int (res.2))) := by
  refine zc_M.of (by decide) (by simp [lg_sl, zv_cat, zv_ci, zv_cj]) ?_
  intro p e s m below meth c ls S hK hw hr hlk hnm hl
  replace S : CallFix p m c cX9_show 4 s [va_rf ((some q)), .int (x1), .int (x2)].toArray (zc_ws yX9_show cX9_show 4 (some .int)) RX9 := S
  have hx := S.1
  have hb := S.2.1
  replace hl : lv_has ls 4 [(0, va_rf ((some q))), (1, .int (x1)), (2, .int (x2))] := by simpa [lv_args, zv_cat, zv_ci, zv_cj] using hl
  generalize s.heap = H at hw ⊢
  obtain ⟨locs, hlocs⟩ : ∃ L : List Loc, L = [] := ⟨_, rfl⟩
  rw [← hlocs] at hw ⊢
  unfold zf_X9_show at hf
  obtain ⟨-, hf⟩ := zo_n hf
  refine zl_aload_n hx hb zd_X9_show_0 rfl (lv_at hl 0 rfl) ?_
  refine lv_iload_n hx hb zd_X9_show_1 rfl (lv_at hl 1 rfl) ?_
  replace hf := zo_b hf; obtain ⟨r1, er1, hf⟩ := hf
  refine zw_callV (n := 1) (ci := 9) (q := zc_cl[9]) (As := [.int (x1)]) (rest := []) S hK hw (zt_X9_shelfAt l g h q x1 _ er1) zm_345 zm_347 zm_0 zq_X9_shelfAt zm_68 (by decide +kernel) ⟨Nat.le_of_ble_eq_true rfl, Nat.le_of_ble_eq_true rfl⟩ rfl rfl rfl (zi_X9_shelfAt er1) hl.1 rfl (by simp [zv_cat, zv_ci, zv_cj]) zd_X9_show_2 ⟨(Nat.le_refl 0), (Nat.le_refl 0)⟩ (fun H locs hw => ?_)
  replace hw : zc_W g h H locs := hw
  refine zl_astore_n (i := 3) (lv' := [(3, va_rf (r1)), (0, va_rf ((some q))), (1, .int (x1)), (2, .int (x2))]) hx hb zd_X9_show_5 rfl hl (by decide) rfl (fun ls hl => ?_)
  refine zl_aload_n hx hb zd_X9_show_6 rfl (lv_at hl 0 rfl) ?_
  have k26h : ∀ (_ : Unit) (H : Heap) (locs : List Loc) (ls : Array Slot), (
      (zf_X9_refuse h q (-1)).bind fun r3 =>
      some (r3.1, r3.2)
      ) = some res → zc_W g h H locs → lv_has ls 4 [(0, va_rf ((some q)))] → W p l e zr_X9_show s m [va_rf ((some q)), .int (x1), .int (x2)].toArray below meth c H locs (0 + 0) (0 + 0) (zc_Q g below zr_X9_show (some (.int (res.2))) res.1 [va_rf ((some q)), .int (x1), .int (x2)] s) (F0 m 26 ls []) := by
    intro _ H locs ls hf hw hl
    refine zl_aload_n hx hb zd_X9_show_26 rfl (lv_at hl 0 rfl) ?_
    refine lv_iconst (v := (-1)) hx hb zd_X9_show_27 (by decide) ?_
    replace hf := zo_b hf; obtain ⟨r3, er3, hf⟩ := hf
    refine zw_callV (n := 1) (ci := 9) (q := zc_cl[9]) (As := [.int ((-1))]) (rest := []) S hK hw (zt_X9_refuse l g h q (-1) _ er3) zm_349 zm_351 zm_1 zq_X9_refuse zm_68 (by decide +kernel) ⟨Nat.le_of_ble_eq_true rfl, Nat.le_of_ble_eq_true rfl⟩ rfl rfl rfl (zi_X9_refuse er3) hl.1 rfl (by simp [zv_cat, zv_ci, zv_cj]) zd_X9_show_28 ⟨(Nat.le_refl 0), (Nat.le_refl 0)⟩ (fun H locs hw => ?_)
    replace hw : zc_W g r3.1 H locs := hw
    have hres := Option.some.inj hf; subst hres
    exact zw_iret (v := r3.2) (ty := .int) hx hb hr hlk rfl hw zd_X9_show_31 (Nat.le_refl 0) (Nat.le_refl 0)
  refine zl_ifnull (tgt := 26) hx hb zd_X9_show_7 (by decide) (fun c2 => ?_) (fun c2 => ?_)
  · replace hf := zo_t c2 hf
    exact k26h () _ _ _ hf hw (lv_sub hl [1] rfl)
  · replace hf := zo_f c2 hf
    refine lv_iload_n hx hb zd_X9_show_10 rfl (lv_at hl 3 rfl) ?_
    refine lv_iconst (v := (-1)) hx hb zd_X9_show_11 (by decide) ?_
    have k32h : ∀ (_ : Unit) (H : Heap) (locs : List Loc) (ls : Array Slot), (
        r1.bind fun a5 =>
        (zf_X5_hold h a5 x2).bind fun r6 =>
        if x2 = (-1) then
          some (r6, 0)
        else
        some (r6, 1)
        ) = some res → zc_W g h H locs → lv_has ls 4 [(2, .int (x2)), (3, va_rf (r1))] → W p l e zr_X9_show s m [va_rf ((some q)), .int (x1), .int (x2)].toArray below meth c H locs (0 + 0) (0 + 0) (zc_Q g below zr_X9_show (some (.int (res.2))) res.1 [va_rf ((some q)), .int (x1), .int (x2)] s) (F0 m 32 ls []) := by
      intro _ H locs ls hf hw hl
      refine zl_aload_n hx hb zd_X9_show_32 rfl (lv_at hl 1 rfl) ?_
      refine lv_iload_n hx hb zd_X9_show_33 rfl (lv_at hl 0 rfl) ?_
      replace hf := zo_b hf; obtain ⟨a5, na5, hf⟩ := hf
      refine W.eq (g2 := F0 m 34 ls [.int (x2), va_rf ((some a5))]) (by rw [na5] <;> rfl) ?_
      replace hf := zo_b hf; obtain ⟨r6, er6, hf⟩ := hf
      refine zw_callV (n := 1) (ci := 5) (q := zc_cl[5]) (As := [.int (x2)]) (rest := []) S hK hw (zt_X5_hold l g h a5 x2 _ er6) zm_443 zm_444 zm_445 zq_X5_hold zm_78 (by decide +kernel) ⟨Nat.le_of_ble_eq_true rfl, Nat.le_of_ble_eq_true rfl⟩ rfl rfl rfl (zi_X5_hold er6) hl.1 rfl (by simp [zv_cat, zv_ci, zv_cj]) zd_X9_show_34 ⟨(Nat.le_refl 0), (Nat.le_refl 0)⟩ (fun H locs hw => ?_)
      replace hw : zc_W g r6 H locs := hw
      refine lv_iload_n hx hb zd_X9_show_37 rfl (lv_at hl 0 rfl) ?_
      refine lv_iconst (v := (-1)) hx hb zd_X9_show_38 (by decide) ?_
      refine lv_icmp_ne (tgt := 46) hx hb zd_X9_show_39 (by decide) (fun c7 => ?_) (fun c7 => ?_)
      · replace hf := zo_f c7 hf
        refine lv_iconst (v := 1) hx hb zd_X9_show_46 (by decide) ?_
        have hres := Option.some.inj hf; subst hres
        exact zw_iret (v := 1) (ty := .int) hx hb hr hlk rfl hw zd_X9_show_47 (Nat.le_refl 0) (Nat.le_refl 0)
      · replace hf := zo_t c7 hf
        refine lv_iconst (v := 0) hx hb zd_X9_show_42 (by decide) ?_
        refine lv_goto (tgt := 47) hx hb zd_X9_show_43 (by decide) ?_
        have hres := Option.some.inj hf; subst hres
        exact zw_iret (v := 0) (ty := .int) hx hb hr hlk rfl hw zd_X9_show_47 (Nat.le_refl 0) (Nat.le_refl 0)
    refine lv_icmp_eq (tgt := 32) hx hb zd_X9_show_12 (by decide) (fun c4 => ?_) (fun c4 => ?_)
    · replace hf := zo_t c4 hf
      exact k32h () _ _ _ hf hw (lv_sub hl [3, 0] rfl)
    · replace hf := zo_f c4 hf
      refine zl_aload_n hx hb zd_X9_show_15 rfl (lv_at hl 1 rfl) ?_
      replace hf := zo_b hf; obtain ⟨v8, ev8, hf⟩ := hf
      obtain ⟨u9, u9e, u9v⟩ := zo_b ev8
      obtain rfl := zv_r_e u9v
      refine zw_get S hK hw zk_9 (k := 1) (by decide) rfl zm_308 (Or.inl rfl) u9e zd_X9_show_16 ?_
      refine lv_iload_n hx hb zd_X9_show_19 rfl (lv_at hl 3 rfl) ?_
      replace hf := zo_b hf; obtain ⟨a10, na10, hf⟩ := hf
      refine W.eq (g2 := F0 m 20 ls [.int (x2), va_rf ((some a10))]) (by rw [na10] <;> rfl) ?_
      replace hf := zo_b hf; obtain ⟨r11, er11, hf⟩ := hf
      refine zw_callV (n := 1) (ci := 6) (q := zc_cl[6]) (As := [.int (x2)]) (rest := []) S hK hw (zt_X6_remarkAt l g h a10 x2 _ er11) zm_420 zm_421 zm_422 zq_X6_remarkAt zm_69 (by decide +kernel) ⟨Nat.le_of_ble_eq_true rfl, Nat.le_of_ble_eq_true rfl⟩ rfl rfl rfl (zi_X6_remarkAt er11) hl.1 rfl (by simp [zv_cat, zv_ci, zv_cj]) zd_X9_show_20 ⟨(Nat.le_refl 0), (Nat.le_refl 0)⟩ (fun H locs hw => ?_)
      replace hw : zc_W g h H locs := hw
      refine zl_ifnonnull (tgt := 32) hx hb zd_X9_show_23 (by decide) (fun c12 => ?_) (fun c12 => ?_)
      · replace hf := zo_f c12 hf
        exact k32h () _ _ _ hf hw (lv_sub hl [3, 0] rfl)
      · replace hf := zo_t c12 hf
        exact k26h () _ _ _ hf hw (lv_sub hl [1] rfl)
def zf_X9_holds (h : zc_H) (q : Nat) (x1 : Int32) : Option (Int32) :=
  if ¬ zf_is h q 9 = true then none else
  (zf_X9_shelfAt h q x1).bind fun r1 =>
  if r1 = none then
    some (-1)
  else
  r1.bind fun a3 =>
  (zf_gi h a3 5 0).bind fun v4 =>
  some v4
abbrev zr_X9_holds : Room := { frames := 1, cells := 0, slots := 0, locals := 21 }
theorem zi_X9_holds {h : zc_H} {q : Nat} {x1 : Int32} {res : Int32} (hf : zf_X9_holds h q x1 = some res) : zf_is h q 9 = true := Decidable.not_not.mp (zo_n hf).1
set_option maxHeartbeats 4000000 in
set_option maxRecDepth 20000 in
theorem zt_X9_holds (l : Launch) (g : zc_G) (h : zc_H) (q : Nat) (x1 : Int32) (res : Int32) (hf : zf_X9_holds h q x1 = some res) : zc_M l g yX9_holds cX9_holds 3 (some .int) zr_X9_holds h [va_rf ((some q)), .int (x1)] h (some (.int (res))) := by
  refine zc_M.of (by decide) (by simp [lg_sl, zv_cat, zv_ci, zv_cj]) ?_
  intro p e s m below meth c ls S hK hw hr hlk hnm hl
  replace S : CallFix p m c cX9_holds 3 s [va_rf ((some q)), .int (x1)].toArray (zc_ws yX9_holds cX9_holds 3 (some .int)) RX9 := S
  have hx := S.1
  have hb := S.2.1
  replace hl : lv_has ls 3 [(0, va_rf ((some q))), (1, .int (x1))] := by simpa [lv_args, zv_cat, zv_ci, zv_cj] using hl
  generalize s.heap = H at hw ⊢
  obtain ⟨locs, hlocs⟩ : ∃ L : List Loc, L = [] := ⟨_, rfl⟩
  rw [← hlocs] at hw ⊢
  unfold zf_X9_holds at hf
  obtain ⟨-, hf⟩ := zo_n hf
  refine zl_aload_n hx hb zd_X9_holds_0 rfl (lv_at hl 0 rfl) ?_
  refine lv_iload_n hx hb zd_X9_holds_1 rfl (lv_at hl 1 rfl) ?_
  replace hf := zo_b hf; obtain ⟨r1, er1, hf⟩ := hf
  refine zw_callV (n := 1) (ci := 9) (q := zc_cl[9]) (As := [.int (x1)]) (rest := []) S hK hw (zt_X9_shelfAt l g h q x1 _ er1) zm_345 zm_347 zm_0 zq_X9_shelfAt zm_68 (by decide +kernel) ⟨Nat.le_of_ble_eq_true rfl, Nat.le_of_ble_eq_true rfl⟩ rfl rfl rfl (zi_X9_shelfAt er1) hl.1 rfl (by simp [zv_cat, zv_ci, zv_cj]) zd_X9_holds_2 ⟨(Nat.le_refl 0), (Nat.le_refl 0)⟩ (fun H locs hw => ?_)
  replace hw : zc_W g h H locs := hw
  refine zl_astore_n (i := 2) (lv' := [(2, va_rf (r1)), (0, va_rf ((some q))), (1, .int (x1))]) hx hb zd_X9_holds_5 rfl hl (by decide) rfl (fun ls hl => ?_)
  refine zl_aload_n hx hb zd_X9_holds_6 rfl (lv_at hl 0 rfl) ?_
  refine zl_ifnonnull (tgt := 14) hx hb zd_X9_holds_7 (by decide) (fun c2 => ?_) (fun c2 => ?_)
  · replace hf := zo_f c2 hf
    refine zl_aload_n hx hb zd_X9_holds_14 rfl (lv_at hl 0 rfl) ?_
    replace hf := zo_b hf; obtain ⟨a3, na3, hf⟩ := hf
    refine W.eq (g2 := F0 m 15 ls [va_rf ((some a3))]) (by rw [na3] <;> rfl) ?_
    replace hf := zo_b hf; obtain ⟨v4, ev4, hf⟩ := hf
    obtain ⟨u5, u5e, u5v⟩ := zo_b ev4
    obtain rfl := zv_i_e u5v
    refine zw_get S hK hw zk_5 (k := 0) (by decide) rfl zm_295 (Or.inl rfl) u5e zd_X9_holds_15 ?_
    have hres := Option.some.inj hf; subst hres
    exact zw_iret (v := v4) (ty := .int) hx hb hr hlk rfl hw zd_X9_holds_18 (Nat.le_refl 0) (Nat.le_refl 0)
  · replace hf := zo_t c2 hf
    refine lv_iconst (v := (-1)) hx hb zd_X9_holds_10 (by decide) ?_
    refine lv_goto (tgt := 18) hx hb zd_X9_holds_11 (by decide) ?_
    have hres := Option.some.inj hf; subst hres
    exact zw_iret (v := (-1)) (ty := .int) hx hb hr hlk rfl hw zd_X9_holds_18 (Nat.le_refl 0) (Nat.le_refl 0)
def zf_X9_isOf_L4 (h : zc_H) (y1 : Int32) : Nat → Int32 → Int32 → Option ((Unit) ⊕ (Unit))
  | 0, _, _ => none
  | n + 1, y2, y3 =>
    if 7 ≤ y3 then
      some (.inl ())
    else
    (zf_X9_isKind h y2).bind fun r2 =>
    if r2 = 0 then
      some (.inl ())
    else
    if y2 = y1 then
      some (.inr ())
    else
    if y2 < 0 ∨ 7 ≤ (y2 : Int32).toNatClampNeg then none else
    zf_X9_isOf_L4 h y1 n (zc_abv (y2 : Int32).toNatClampNeg) (y3 + 1)
def zf_X9_isOf (h : zc_H) (x0 : Int32) (x1 : Int32) : Option (Int32) :=
  (zf_X9_isOf_L4 h x1 2000 x0 0).bind fun w6 =>
  Sum.elim (fun t7 =>
    some 0
    ) (fun t8 =>
    some 1
    ) w6
abbrev zr_X9_isOf : Room := { frames := 1, cells := 0, slots := 0, locals := 20 }
set_option maxHeartbeats 4000000 in
set_option maxRecDepth 20000 in
theorem zt_X9_isOf (l : Launch) (g : zc_G) (h : zc_H) (x0 : Int32) (x1 : Int32) (res : Int32) (hf : zf_X9_isOf h x0 x1 = some res) : zc_M l g yX9_isOf cX9_isOf 4 (some .boolean) zr_X9_isOf h [.int (x0), .int (x1)] h (some (.int (res))) := by
  refine zc_M.of (by decide) (by simp [lg_sl, zv_cat, zv_ci, zv_cj]) ?_
  intro p e s m below meth c ls S hK hw hr hlk hnm hl
  replace S : CallFix p m c cX9_isOf 4 s [.int (x0), .int (x1)].toArray (zc_ws yX9_isOf cX9_isOf 4 (some .boolean)) RX9 := S
  have hx := S.1
  have hb := S.2.1
  replace hl : lv_has ls 4 [(0, .int (x0)), (1, .int (x1))] := by simpa [lv_args, zv_cat, zv_ci, zv_cj] using hl
  generalize s.heap = H at hw ⊢
  obtain ⟨locs, hlocs⟩ : ∃ L : List Loc, L = [] := ⟨_, rfl⟩
  rw [← hlocs] at hw ⊢
  have L4 : ∀ (h : zc_H) (y1 : Int32) (n : Nat) (y2 : Int32) (y3 : Int32) (w : (Unit) ⊕ (Unit)) (H : Heap) (locs : List Loc) (ls : Array Slot), zf_X9_isOf_L4 h y1 n y2 y3 = some w → zc_W g h H locs → lv_has ls 4 [(1, .int (y1)), (2, .int (y2)), (3, .int (y3))] → (∀ (t : Unit) (H : Heap) (locs : List Loc) (ls : Array Slot), w = (.inl t) → zc_W g h H locs → lv_has ls 4 [] → W p l e zr_X9_isOf s m [.int (x0), .int (x1)].toArray below meth c H locs 0 0 (zc_Q g below zr_X9_isOf (some (.int (res))) h [.int (x0), .int (x1)] s) (F0 m 36 ls [])) → (∀ (t : Unit) (H : Heap) (locs : List Loc) (ls : Array Slot), w = (.inr t) → zc_W g h H locs → lv_has ls 4 [] → W p l e zr_X9_isOf s m [.int (x0), .int (x1)].toArray below meth c H locs 0 0 (zc_Q g below zr_X9_isOf (some (.int (res))) h [.int (x0), .int (x1)] s) (F0 m 22 ls [])) → W p l e zr_X9_isOf s m [.int (x0), .int (x1)].toArray below meth c H locs 0 0 (zc_Q g below zr_X9_isOf (some (.int (res))) h [.int (x0), .int (x1)] s) (F0 m 4 ls []) := by
    intro h y1 n
    induction n with
    | zero =>
      intro y2 y3 w H locs ls hf
      cases hf
    | succ n ih =>
      intro y2 y3 w H locs ls hf hw hl  kk1 kk2
      unfold zf_X9_isOf_L4 at hf
      refine lv_iload_n hx hb zd_X9_isOf_4 rfl (lv_at hl 2 rfl) ?_
      refine lv_bipush (v := 7) hx hb zd_X9_isOf_5 (by decide) ?_
      refine lv_icmp_ge (tgt := 36) hx hb zd_X9_isOf_7 (by decide) (fun c1 => ?_) (fun c1 => ?_)
      · replace hf := zo_t c1 hf
        have hres := Option.some.inj hf; subst hres
        exact kk1 _ _ _ _ rfl hw (lv_sub hl [] rfl)
      · replace hf := zo_f c1 hf
        refine lv_iload_n hx hb zd_X9_isOf_10 rfl (lv_at hl 1 rfl) ?_
        replace hf := zo_b hf; obtain ⟨r2, er2, hf⟩ := hf
        refine zw_callS (n := 1) (As := [.int (y2)]) (rest := []) S hK hw (zt_X9_isKind l g h y2 _ er2) zm_455 zm_456 zq_X9_isKind zm_68 (by decide +kernel) ⟨Nat.le_of_ble_eq_true rfl, Nat.le_of_ble_eq_true rfl⟩ rfl hl.1 rfl (by simp [zv_cat, zv_ci, zv_cj]) zd_X9_isOf_11 ⟨(Nat.le_refl 0), (Nat.le_refl 0)⟩ (fun H locs hw => ?_)
        replace hw : zc_W g h H locs := hw
        refine lv_if_eq (tgt := 36) hx hb zd_X9_isOf_14 (by decide) (fun c3 => ?_) (fun c3 => ?_)
        · replace hf := zo_t c3 hf
          have hres := Option.some.inj hf; subst hres
          exact kk1 _ _ _ _ rfl hw (lv_sub hl [] rfl)
        · replace hf := zo_f c3 hf
          refine lv_iload_n hx hb zd_X9_isOf_17 rfl (lv_at hl 1 rfl) ?_
          refine lv_iload_n hx hb zd_X9_isOf_18 rfl (lv_at hl 0 rfl) ?_
          refine lv_icmp_ne (tgt := 24) hx hb zd_X9_isOf_19 (by decide) (fun c4 => ?_) (fun c4 => ?_)
          · replace hf := zo_f c4 hf
            refine zw_gets (ref := "") S hw hK.2.2.1 zm_461 zd_X9_isOf_24 ?_
            refine lv_iload_n hx hb zd_X9_isOf_27 rfl (lv_at hl 1 rfl) ?_
            replace hf := zo_n hf; obtain ⟨z5, hf⟩ := hf
            refine zw_ti S hw hK.2.2.2.1 z5 zd_X9_isOf_28 ?_
            refine lv_istore_n (i := 2) (lv' := [(2, .int ((zc_abv (y2 : Int32).toNatClampNeg))), (1, .int (y1)), (3, .int (y3))]) hx hb zd_X9_isOf_29 rfl hl (by decide) rfl (fun ls hl => ?_)
            refine lv_iinc (i := 3) (v := (y3 + 1)) (lv' := [(3, .int ((y3 + 1))), (2, .int ((zc_abv (y2 : Int32).toNatClampNeg))), (1, .int (y1))]) hx hb zd_X9_isOf_30 hl (k := 2) rfl (congrArg (_ + ·) (by decide)) (by decide) rfl (fun ls hl => ?_)
            refine lv_goto (tgt := 4) hx hb zd_X9_isOf_33 (by decide) ?_
            exact ih (zc_abv (y2 : Int32).toNatClampNeg) (y3 + 1) _ _ _ _ hf hw (lv_sub hl [2, 1, 0] rfl) kk1 kk2
          · replace hf := zo_t c4 hf
            have hres := Option.some.inj hf; subst hres
            exact kk2 _ _ _ _ rfl hw (lv_sub hl [] rfl)
  unfold zf_X9_isOf at hf
  refine lv_iload_n hx hb zd_X9_isOf_0 rfl (lv_at hl 0 rfl) ?_
  refine lv_istore_n (i := 2) (lv' := [(2, .int (x0)), (0, .int (x0)), (1, .int (x1))]) hx hb zd_X9_isOf_1 rfl hl (by decide) rfl (fun ls hl => ?_)
  refine lv_iconst (v := 0) hx hb zd_X9_isOf_2 (by decide) ?_
  refine lv_istore_n (i := 3) (lv' := [(3, .int (0)), (2, .int (x0)), (0, .int (x0)), (1, .int (x1))]) hx hb zd_X9_isOf_3 rfl hl (by decide) rfl (fun ls hl => ?_)
  replace hf := zo_b hf; obtain ⟨w6, w6e, hf⟩ := hf
  refine L4 h x1 2000 x0 0 _ _ _ _ w6e hw (lv_sub hl [3, 1, 0] rfl) ?_ ?_
  · intro t7 H locs ls exw6 hw hl
    rw [exw6] at hf
    simp only [Sum.elim_inl, Sum.elim_inr] at hf
    refine lv_iconst (v := 0) hx hb zd_X9_isOf_36 (by decide) ?_
    have hres := Option.some.inj hf; subst hres
    exact zw_iret (v := 0) (ty := .boolean) hx hb hr hlk rfl hw zd_X9_isOf_37 (Nat.le_refl 0) (Nat.le_refl 0)
  · intro t8 H locs ls exw6 hw hl
    rw [exw6] at hf
    simp only [Sum.elim_inl, Sum.elim_inr] at hf
    refine lv_iconst (v := 1) hx hb zd_X9_isOf_22 (by decide) ?_
    have hres := Option.some.inj hf; subst hres
    exact zw_iret (v := 1) (ty := .boolean) hx hb hr hlk rfl hw zd_X9_isOf_23 (Nat.le_refl 0) (Nat.le_refl 0)
def zf_X9_says (h : zc_H) (q : Nat) (x1 : Int32) (x2 : Int32) : Option (zc_H × Int32) :=
  if ¬ zf_is h q 9 = true then none else
  (zf_X9_shelfAt h q x1).bind fun r1 =>
  let k17 := fun (_ : Unit) =>
    (zf_X9_refuse h q (-1)).bind fun r3 =>
    some (r3.1, r3.2)
  if r1 = none then
    k17 ()
  else
  (zf_X9_isKind h x2).bind fun r4 =>
  if r4 = 0 then
    k17 ()
  else
  r1.bind fun a6 =>
  (zf_X5_hasRow h a6).bind fun r7 =>
  if r7 = 0 then
    (zf_gr h q 9 1).bind fun v9 =>
    (zf_gi h a6 5 0).bind fun v11 =>
    v9.bind fun a13 =>
    (zf_X6_remarkAt h a13 v11).bind fun r14 =>
    if r14 = none then
      (zf_X9_refuse h q (-3)).bind fun r23 =>
      some (r23.1, r23.2)
    else
    r14.bind fun a16 =>
    (zf_gi h a16 3 1).bind fun v17 =>
    (zf_X9_isOf h v17 x2).bind fun r19 =>
    if r19 = 0 then
      (zf_X9_refuse h q (-2)).bind fun r22 =>
      some (r22.1, r22.2)
    else
    (zf_X3_wordAs h a16 x2).bind fun r21 =>
    some (h, r21)
  else
  (zf_X9_refuse h q (-2)).bind fun r24 =>
  some (r24.1, r24.2)
abbrev zr_X9_says : Room := { frames := 4, cells := 0, slots := 0, locals := 85 }
theorem zi_X9_says {h : zc_H} {q : Nat} {x1 : Int32} {x2 : Int32} {res : zc_H × Int32} (hf : zf_X9_says h q x1 x2 = some res) : zf_is h q 9 = true := Decidable.not_not.mp (zo_n hf).1
set_option maxHeartbeats 4000000 in
set_option maxRecDepth 20000 in
theorem zt_X9_says (l : Launch) (g : zc_G) (h : zc_H) (q : Nat) (x1 : Int32) (x2 : Int32) (res : zc_H × Int32) (hf : zf_X9_says h q x1 x2 = some res) : zc_M l g yX9_says cX9_says 5 (some .int) zr_X9_says h [va_rf ((some q)), .int (x1), .int (x2)] res.1 (some (.int (res.2))) := by
  refine zc_M.of (by decide) (by simp [lg_sl, zv_cat, zv_ci, zv_cj]) ?_
  intro p e s m below meth c ls S hK hw hr hlk hnm hl
  replace S : CallFix p m c cX9_says 5 s [va_rf ((some q)), .int (x1), .int (x2)].toArray (zc_ws yX9_says cX9_says 5 (some .int)) RX9 := S
  have hx := S.1
  have hb := S.2.1
  replace hl : lv_has ls 5 [(0, va_rf ((some q))), (1, .int (x1)), (2, .int (x2))] := by simpa [lv_args, zv_cat, zv_ci, zv_cj] using hl
  generalize s.heap = H at hw ⊢
  obtain ⟨locs, hlocs⟩ : ∃ L : List Loc, L = [] := ⟨_, rfl⟩
  rw [← hlocs] at hw ⊢
  unfold zf_X9_says at hf
  obtain ⟨-, hf⟩ := zo_n hf
  refine zl_aload_n hx hb zd_X9_says_0 rfl (lv_at hl 0 rfl) ?_
  refine lv_iload_n hx hb zd_X9_says_1 rfl (lv_at hl 1 rfl) ?_
  replace hf := zo_b hf; obtain ⟨r1, er1, hf⟩ := hf
  refine zw_callV (n := 1) (ci := 9) (q := zc_cl[9]) (As := [.int (x1)]) (rest := []) S hK hw (zt_X9_shelfAt l g h q x1 _ er1) zm_345 zm_347 zm_0 zq_X9_shelfAt zm_68 (by decide +kernel) ⟨Nat.le_of_ble_eq_true rfl, Nat.le_of_ble_eq_true rfl⟩ rfl rfl rfl (zi_X9_shelfAt er1) hl.1 rfl (by simp [zv_cat, zv_ci, zv_cj]) zd_X9_says_2 ⟨(Nat.le_refl 0), (Nat.le_refl 0)⟩ (fun H locs hw => ?_)
  replace hw : zc_W g h H locs := hw
  refine zl_astore_n (i := 3) (lv' := [(3, va_rf (r1)), (0, va_rf ((some q))), (1, .int (x1)), (2, .int (x2))]) hx hb zd_X9_says_5 rfl hl (by decide) rfl (fun ls hl => ?_)
  refine zl_aload_n hx hb zd_X9_says_6 rfl (lv_at hl 0 rfl) ?_
  have k17h : ∀ (_ : Unit) (H : Heap) (locs : List Loc) (ls : Array Slot), (
      (zf_X9_refuse h q (-1)).bind fun r3 =>
      some (r3.1, r3.2)
      ) = some res → zc_W g h H locs → lv_has ls 5 [(0, va_rf ((some q)))] → W p l e zr_X9_says s m [va_rf ((some q)), .int (x1), .int (x2)].toArray below meth c H locs (0 + 0) (0 + 0) (zc_Q g below zr_X9_says (some (.int (res.2))) res.1 [va_rf ((some q)), .int (x1), .int (x2)] s) (F0 m 17 ls []) := by
    intro _ H locs ls hf hw hl
    refine zl_aload_n hx hb zd_X9_says_17 rfl (lv_at hl 0 rfl) ?_
    refine lv_iconst (v := (-1)) hx hb zd_X9_says_18 (by decide) ?_
    replace hf := zo_b hf; obtain ⟨r3, er3, hf⟩ := hf
    refine zw_callV (n := 1) (ci := 9) (q := zc_cl[9]) (As := [.int ((-1))]) (rest := []) S hK hw (zt_X9_refuse l g h q (-1) _ er3) zm_349 zm_351 zm_1 zq_X9_refuse zm_68 (by decide +kernel) ⟨Nat.le_of_ble_eq_true rfl, Nat.le_of_ble_eq_true rfl⟩ rfl rfl rfl (zi_X9_refuse er3) hl.1 rfl (by simp [zv_cat, zv_ci, zv_cj]) zd_X9_says_19 ⟨(Nat.le_refl 0), (Nat.le_refl 0)⟩ (fun H locs hw => ?_)
    replace hw : zc_W g r3.1 H locs := hw
    have hres := Option.some.inj hf; subst hres
    exact zw_iret (v := r3.2) (ty := .int) hx hb hr hlk rfl hw zd_X9_says_22 (Nat.le_refl 0) (Nat.le_refl 0)
  refine zl_ifnull (tgt := 17) hx hb zd_X9_says_7 (by decide) (fun c2 => ?_) (fun c2 => ?_)
  · replace hf := zo_t c2 hf
    exact k17h () _ _ _ hf hw (lv_sub hl [1] rfl)
  · replace hf := zo_f c2 hf
    refine lv_iload_n hx hb zd_X9_says_10 rfl (lv_at hl 3 rfl) ?_
    replace hf := zo_b hf; obtain ⟨r4, er4, hf⟩ := hf
    refine zw_callS (n := 1) (As := [.int (x2)]) (rest := []) S hK hw (zt_X9_isKind l g h x2 _ er4) zm_455 zm_456 zq_X9_isKind zm_68 (by decide +kernel) ⟨Nat.le_of_ble_eq_true rfl, Nat.le_of_ble_eq_true rfl⟩ rfl hl.1 rfl (by simp [zv_cat, zv_ci, zv_cj]) zd_X9_says_11 ⟨(Nat.le_refl 0), (Nat.le_refl 0)⟩ (fun H locs hw => ?_)
    replace hw : zc_W g h H locs := hw
    refine lv_if_ne (tgt := 23) hx hb zd_X9_says_14 (by decide) (fun c5 => ?_) (fun c5 => ?_)
    · replace hf := zo_f c5 hf
      refine zl_aload_n hx hb zd_X9_says_23 rfl (lv_at hl 0 rfl) ?_
      replace hf := zo_b hf; obtain ⟨a6, na6, hf⟩ := hf
      refine W.eq (g2 := F0 m 24 ls [va_rf ((some a6))]) (by rw [na6] <;> rfl) ?_
      replace hf := zo_b hf; obtain ⟨r7, er7, hf⟩ := hf
      refine zw_callV (n := 0) (ci := 5) (q := zc_cl[5]) (As := []) (rest := []) S hK hw (zt_X5_hasRow l g h a6 _ er7) zm_367 zm_368 zm_369 zq_X5_hasRow zm_78 (by decide +kernel) ⟨Nat.le_of_ble_eq_true rfl, Nat.le_of_ble_eq_true rfl⟩ rfl rfl rfl (zi_X5_hasRow er7) hl.1 rfl (by simp [zv_cat, zv_ci, zv_cj]) zd_X9_says_24 ⟨(Nat.le_refl 0), (Nat.le_refl 0)⟩ (fun H locs hw => ?_)
      replace hw : zc_W g h H locs := hw
      refine lv_if_eq (tgt := 37) hx hb zd_X9_says_27 (by decide) (fun c8 => ?_) (fun c8 => ?_)
      · replace hf := zo_t c8 hf
        refine zl_aload_n hx hb zd_X9_says_37 rfl (lv_at hl 1 rfl) ?_
        replace hf := zo_b hf; obtain ⟨v9, ev9, hf⟩ := hf
        obtain ⟨u10, u10e, u10v⟩ := zo_b ev9
        obtain rfl := zv_r_e u10v
        refine zw_get S hK hw zk_9 (k := 1) (by decide) rfl zm_308 (Or.inl rfl) u10e zd_X9_says_38 ?_
        refine zl_aload_n hx hb zd_X9_says_41 rfl (lv_at hl 0 rfl) ?_
        refine W.eq (g2 := F0 m 42 ls [va_rf ((some a6)), va_rf (v9)]) (by rw [na6] <;> rfl) ?_
        replace hf := zo_b hf; obtain ⟨v11, ev11, hf⟩ := hf
        obtain ⟨u12, u12e, u12v⟩ := zo_b ev11
        obtain rfl := zv_i_e u12v
        refine zw_get S hK hw zk_5 (k := 0) (by decide) rfl zm_295 (Or.inl rfl) u12e zd_X9_says_42 ?_
        replace hf := zo_b hf; obtain ⟨a13, na13, hf⟩ := hf
        refine W.eq (g2 := F0 m 45 ls [.int (v11), va_rf ((some a13))]) (by rw [na13] <;> rfl) ?_
        replace hf := zo_b hf; obtain ⟨r14, er14, hf⟩ := hf
        refine zw_callV (n := 1) (ci := 6) (q := zc_cl[6]) (As := [.int (v11)]) (rest := []) S hK hw (zt_X6_remarkAt l g h a13 v11 _ er14) zm_420 zm_421 zm_422 zq_X6_remarkAt zm_69 (by decide +kernel) ⟨Nat.le_of_ble_eq_true rfl, Nat.le_of_ble_eq_true rfl⟩ rfl rfl rfl (zi_X6_remarkAt er14) hl.1 rfl (by simp [zv_cat, zv_ci, zv_cj]) zd_X9_says_45 ⟨(Nat.le_refl 0), (Nat.le_refl 0)⟩ (fun H locs hw => ?_)
        replace hw : zc_W g h H locs := hw
        refine zl_astore (i := 4) (lv' := [(4, va_rf (r14)), (3, va_rf (r1)), (0, va_rf ((some q))), (1, .int (x1)), (2, .int (x2))]) hx hb zd_X9_says_48 hl (by decide) (by simp [List.filter, zv_cat, zv_ci, zv_cj]) (fun ls hl => ?_)
        refine zl_aload hx hb zd_X9_says_50 (lv_at hl 0 rfl) ?_
        refine zl_ifnonnull (tgt := 62) hx hb zd_X9_says_52 (by decide) (fun c15 => ?_) (fun c15 => ?_)
        · replace hf := zo_f c15 hf
          refine zl_aload hx hb zd_X9_says_62 (lv_at hl 0 rfl) ?_
          replace hf := zo_b hf; obtain ⟨a16, na16, hf⟩ := hf
          refine W.eq (g2 := F0 m 64 ls [va_rf ((some a16))]) (by rw [na16] <;> rfl) ?_
          replace hf := zo_b hf; obtain ⟨v17, ev17, hf⟩ := hf
          obtain ⟨u18, u18e, u18v⟩ := zo_b ev17
          obtain rfl := zv_i_e u18v
          refine zw_get S hK hw zk_3 (k := 1) (by decide) rfl zm_761 (Or.inl rfl) u18e zd_X9_says_64 ?_
          refine lv_iload_n hx hb zd_X9_says_67 rfl (lv_at hl 4 rfl) ?_
          replace hf := zo_b hf; obtain ⟨r19, er19, hf⟩ := hf
          refine zw_callS (n := 2) (As := [.int (v17), .int (x2)]) (rest := []) S hK hw (zt_X9_isOf l g h v17 x2 _ er19) zm_458 zm_459 zq_X9_isOf zm_68 (by decide +kernel) ⟨Nat.le_of_ble_eq_true rfl, Nat.le_of_ble_eq_true rfl⟩ rfl hl.1 rfl (by simp [zv_cat, zv_ci, zv_cj]) zd_X9_says_68 ⟨(Nat.le_refl 0), (Nat.le_refl 0)⟩ (fun H locs hw => ?_)
          replace hw : zc_W g h H locs := hw
          refine lv_if_ne (tgt := 81) hx hb zd_X9_says_71 (by decide) (fun c20 => ?_) (fun c20 => ?_)
          · replace hf := zo_f c20 hf
            refine zl_aload hx hb zd_X9_says_81 (lv_at hl 0 rfl) ?_
            refine lv_iload_n hx hb zd_X9_says_83 rfl (lv_at hl 4 rfl) ?_
            refine W.eq (g2 := F0 m 84 ls [.int (x2), va_rf ((some a16))]) (by rw [na16] <;> rfl) ?_
            replace hf := zo_b hf; obtain ⟨r21, er21, hf⟩ := hf
            refine zw_callV (n := 1) (ci := 3) (q := zc_cl[3]) (As := [.int (x2)]) (rest := []) S hK hw (zt_X3_wordAs l g h a16 x2 _ er21) zm_463 zm_464 zm_465 zq_X3_wordAs zm_87 (by decide +kernel) ⟨Nat.le_of_ble_eq_true rfl, Nat.le_of_ble_eq_true rfl⟩ rfl rfl rfl (zi_X3_wordAs er21) hl.1 rfl (by simp [zv_cat, zv_ci, zv_cj]) zd_X9_says_84 ⟨(Nat.le_refl 0), (Nat.le_refl 0)⟩ (fun H locs hw => ?_)
            replace hw : zc_W g h H locs := hw
            have hres := Option.some.inj hf; subst hres
            exact zw_iret (v := r21) (ty := .int) hx hb hr hlk rfl hw zd_X9_says_87 (Nat.le_refl 0) (Nat.le_refl 0)
          · replace hf := zo_t c20 hf
            refine zl_aload_n hx hb zd_X9_says_74 rfl (lv_at hl 2 rfl) ?_
            refine lv_bipush (v := (-2)) hx hb zd_X9_says_75 (by decide) ?_
            replace hf := zo_b hf; obtain ⟨r22, er22, hf⟩ := hf
            refine zw_callV (n := 1) (ci := 9) (q := zc_cl[9]) (As := [.int ((-2))]) (rest := []) S hK hw (zt_X9_refuse l g h q (-2) _ er22) zm_349 zm_351 zm_1 zq_X9_refuse zm_68 (by decide +kernel) ⟨Nat.le_of_ble_eq_true rfl, Nat.le_of_ble_eq_true rfl⟩ rfl rfl rfl (zi_X9_refuse er22) hl.1 rfl (by simp [zv_cat, zv_ci, zv_cj]) zd_X9_says_77 ⟨(Nat.le_refl 0), (Nat.le_refl 0)⟩ (fun H locs hw => ?_)
            replace hw : zc_W g r22.1 H locs := hw
            have hres := Option.some.inj hf; subst hres
            exact zw_iret (v := r22.2) (ty := .int) hx hb hr hlk rfl hw zd_X9_says_80 (Nat.le_refl 0) (Nat.le_refl 0)
        · replace hf := zo_t c15 hf
          refine zl_aload_n hx hb zd_X9_says_55 rfl (lv_at hl 2 rfl) ?_
          refine lv_bipush (v := (-3)) hx hb zd_X9_says_56 (by decide) ?_
          replace hf := zo_b hf; obtain ⟨r23, er23, hf⟩ := hf
          refine zw_callV (n := 1) (ci := 9) (q := zc_cl[9]) (As := [.int ((-3))]) (rest := []) S hK hw (zt_X9_refuse l g h q (-3) _ er23) zm_349 zm_351 zm_1 zq_X9_refuse zm_68 (by decide +kernel) ⟨Nat.le_of_ble_eq_true rfl, Nat.le_of_ble_eq_true rfl⟩ rfl rfl rfl (zi_X9_refuse er23) hl.1 rfl (by simp [zv_cat, zv_ci, zv_cj]) zd_X9_says_58 ⟨(Nat.le_refl 0), (Nat.le_refl 0)⟩ (fun H locs hw => ?_)
          replace hw : zc_W g r23.1 H locs := hw
          have hres := Option.some.inj hf; subst hres
          exact zw_iret (v := r23.2) (ty := .int) hx hb hr hlk rfl hw zd_X9_says_61 (Nat.le_refl 0) (Nat.le_refl 0)
      · replace hf := zo_f c8 hf
        refine zl_aload_n hx hb zd_X9_says_30 rfl (lv_at hl 1 rfl) ?_
        refine lv_bipush (v := (-2)) hx hb zd_X9_says_31 (by decide) ?_
        replace hf := zo_b hf; obtain ⟨r24, er24, hf⟩ := hf
        refine zw_callV (n := 1) (ci := 9) (q := zc_cl[9]) (As := [.int ((-2))]) (rest := []) S hK hw (zt_X9_refuse l g h q (-2) _ er24) zm_349 zm_351 zm_1 zq_X9_refuse zm_68 (by decide +kernel) ⟨Nat.le_of_ble_eq_true rfl, Nat.le_of_ble_eq_true rfl⟩ rfl rfl rfl (zi_X9_refuse er24) hl.1 rfl (by simp [zv_cat, zv_ci, zv_cj]) zd_X9_says_33 ⟨(Nat.le_refl 0), (Nat.le_refl 0)⟩ (fun H locs hw => ?_)
        replace hw : zc_W g r24.1 H locs := hw
        have hres := Option.some.inj hf; subst hres
        exact zw_iret (v := r24.2) (ty := .int) hx hb hr hlk rfl hw zd_X9_says_36 (Nat.le_refl 0) (Nat.le_refl 0)
    · replace hf := zo_t c5 hf
      exact k17h () _ _ _ hf hw (lv_sub hl [1] rfl)
def zf_X9_addRevision (h : zc_H) (q : Nat) (x1 : Option Nat) : Option (zc_H × Option Nat) :=
  if ¬ zf_is h q 9 = true then none else
  (some (zf_new h (.inr (4, [.int 0, .null, .null, .null, .int 0])))).bind fun h1 =>
  (zf_gr h1 q 9 1).bind fun v2 =>
  v2.bind fun a4 =>
  (zf_gr h1 a4 6 0).bind fun v5 =>
  v5.bind fun a7 =>
  (zf_Jx4a65c_size_8abf5 h1 a7).bind fun r8 =>
  (zf_gr h1 q 9 6).bind fun v9 =>
  v9.bind fun a11 =>
  (zf_X0_linesSoFar h1 a11).bind fun r12 =>
  (zf_X4_init r12.1 h.2.1 r8 x1 r12.2).bind fun r13 =>
  (zf_gr r13 q 9 1).bind fun v14 =>
  v14.bind fun a16 =>
  (zf_gr r13 a16 6 0).bind fun v17 =>
  v17.bind fun a19 =>
  (zf_Jx4a65c_add_9ea2d r13 a19 (some h.2.1)).bind fun r20 =>
  (zf_gr r20.1 q 9 7).bind fun v21 =>
  (zf_gr r20.1 q 9 1).bind fun v23 =>
  v23.bind fun a25 =>
  (zf_gi r20.1 a25 6 3).bind fun v26 =>
  (zf_X4_readyStep r20.1 h.2.1 v21 v26).bind fun r28 =>
  some (r28, (some h.2.1))
abbrev zr_X9_addRevision : Room := { frames := 8, cells := 4, slots := 125, locals := 228 }
theorem zi_X9_addRevision {h : zc_H} {q : Nat} {x1 : Option Nat} {res : zc_H × Option Nat} (hf : zf_X9_addRevision h q x1 = some res) : zf_is h q 9 = true := Decidable.not_not.mp (zo_n hf).1
set_option maxHeartbeats 4000000 in
set_option maxRecDepth 20000 in
theorem zt_X9_addRevision (l : Launch) (g : zc_G) (h : zc_H) (q : Nat) (x1 : Option Nat) (res : zc_H × Option Nat) (hf : zf_X9_addRevision h q x1 = some res) : zc_M l g yX9_addRevision cX9_addRevision 3 (some (.object "LineRemarks$Revision")) zr_X9_addRevision h [va_rf ((some q)), va_rf (x1)] res.1 (some (va_rf (res.2))) := by
  refine zc_M.of (by decide) (by simp [lg_sl, zv_cat, zv_ci, zv_cj]) ?_
  intro p e s m below meth c ls S hK hw hr hlk hnm hl
  replace S : CallFix p m c cX9_addRevision 3 s [va_rf ((some q)), va_rf (x1)].toArray (zc_ws yX9_addRevision cX9_addRevision 3 (some (.object "LineRemarks$Revision"))) RX9 := S
  have hx := S.1
  have hb := S.2.1
  replace hl : lv_has ls 3 [(0, va_rf ((some q))), (1, va_rf (x1))] := by simpa [lv_args, zv_cat, zv_ci, zv_cj] using hl
  generalize s.heap = H at hw ⊢
  obtain ⟨locs, hlocs⟩ : ∃ L : List Loc, L = [] := ⟨_, rfl⟩
  rw [← hlocs] at hw ⊢
  unfold zf_X9_addRevision at hf
  obtain ⟨-, hf⟩ := zo_n hf
  replace hf := zo_b hf; obtain ⟨h1, eh1, hf⟩ := hf
  refine zw_new (ci := 4) (ty := tyX4) (fs := [.int 0, .null, .null, .null, .int 0]) S hK hw zk_4 (fun k hk => tyX4_ok k hk) (by decide) zm_505 zm_506 zm_84 (by show _ ≤ (4 : Nat); omega) (by show _ ≤ (125 : Nat); omega) zd_X9_addRevision_0 (fun H hw => ?_)
  replace hw : zc_W g h1 H locs := (Option.some.inj eh1) ▸ hw
  refine lv_dup hx hb zd_X9_addRevision_3 rfl ?_
  refine zl_aload_n hx hb zd_X9_addRevision_4 rfl (lv_at hl 0 rfl) ?_
  replace hf := zo_b hf; obtain ⟨v2, ev2, hf⟩ := hf
  obtain ⟨u3, u3e, u3v⟩ := zo_b ev2
  obtain rfl := zv_r_e u3v
  refine zw_get S hK hw zk_9 (k := 1) (by decide) rfl zm_308 (Or.inl rfl) u3e zd_X9_addRevision_5 ?_
  replace hf := zo_b hf; obtain ⟨a4, na4, hf⟩ := hf
  refine W.eq (g2 := F0 m 8 ls [va_rf ((some a4)), va_rf ((some h.2.1)), va_rf ((some h.2.1))]) (by rw [na4] <;> rfl) ?_
  replace hf := zo_b hf; obtain ⟨v5, ev5, hf⟩ := hf
  obtain ⟨u6, u6e, u6v⟩ := zo_b ev5
  obtain rfl := zv_r_e u6v
  refine zw_get S hK hw zk_6 (k := 0) (by decide) rfl zm_132 (Or.inl rfl) u6e zd_X9_addRevision_8 ?_
  replace hf := zo_b hf; obtain ⟨a7, na7, hf⟩ := hf
  refine W.eq (g2 := F0 m 11 ls [va_rf ((some a7)), va_rf ((some h.2.1)), va_rf ((some h.2.1))]) (by rw [na7] <;> rfl) ?_
  replace hf := zo_b hf; obtain ⟨r8, er8, hf⟩ := hf
  refine zw_callV (n := 0) (ci := 11) (q := zc_cl[11]) (As := []) (rest := [va_rf ((some h.2.1)), va_rf ((some h.2.1))]) S hK hw (zt_Jx4a65c_size_8abf5 l g h1 a7 _ er8) zm_500 zm_425 zm_426 zq_Jx4a65c_size_8abf5 zm_72 (by decide +kernel) ⟨Nat.le_of_ble_eq_true rfl, Nat.le_of_ble_eq_true rfl⟩ rfl rfl rfl (zi_Jx4a65c_size_8abf5 er8) hl.1 rfl (by simp [zv_cat, zv_ci, zv_cj]) zd_X9_addRevision_11 ⟨(by show (0 + 1) + (0 : Nat) ≤ (4 : Nat); omega), (by show (0 + 5) + (0 : Nat) ≤ (125 : Nat); omega)⟩ (fun H locs hw => ?_)
  replace hw : zc_W g h1 H locs := hw
  refine W.widen (k := ((0 + 1) + 0)) (n := ((0 + 5) + 0)) (Nat.le_refl _) (Nat.le_refl _) ?_
  refine zl_aload_n hx hb zd_X9_addRevision_14 rfl (lv_at hl 1 rfl) ?_
  refine zl_aload_n hx hb zd_X9_addRevision_15 rfl (lv_at hl 0 rfl) ?_
  replace hf := zo_b hf; obtain ⟨v9, ev9, hf⟩ := hf
  obtain ⟨u10, u10e, u10v⟩ := zo_b ev9
  obtain rfl := zv_r_e u10v
  refine zw_get S hK hw zk_9 (k := 6) (by decide) rfl zm_313 (Or.inl rfl) u10e zd_X9_addRevision_16 ?_
  replace hf := zo_b hf; obtain ⟨a11, na11, hf⟩ := hf
  refine W.eq (g2 := F0 m 19 ls [va_rf ((some a11)), va_rf (x1), .int (r8), va_rf ((some h.2.1)), va_rf ((some h.2.1))]) (by rw [na11] <;> rfl) ?_
  replace hf := zo_b hf; obtain ⟨r12, er12, hf⟩ := hf
  refine zw_callV (n := 0) (ci := 0) (q := zc_cl[0]) (As := []) (rest := [va_rf (x1), .int (r8), va_rf ((some h.2.1)), va_rf ((some h.2.1))]) S hK hw (zt_X0_linesSoFar l g h1 a11 _ er12) zm_507 zm_508 zm_509 zq_X0_linesSoFar zm_73 (by decide +kernel) ⟨Nat.le_of_ble_eq_true rfl, Nat.le_of_ble_eq_true rfl⟩ rfl rfl rfl (zi_X0_linesSoFar er12) hl.1 rfl (by simp [zv_cat, zv_ci, zv_cj]) zd_X9_addRevision_19 ⟨(by show ((0 + 1) + 0) + (1 : Nat) ≤ (4 : Nat); omega), (by show ((0 + 5) + 0) + (40 : Nat) ≤ (125 : Nat); omega)⟩ (fun H locs hw => ?_)
  replace hw : zc_W g r12.1 H locs := hw
  refine W.widen (k := (((0 + 1) + 0) + 1)) (n := (((0 + 5) + 0) + 40)) (Nat.le_refl _) (Nat.le_refl _) ?_
  replace hf := zo_b hf; obtain ⟨r13, er13, hf⟩ := hf
  refine zw_callI (n := 3) (As := [.int (r8), va_rf (x1), va_rf (r12.2)]) (rest := [va_rf ((some h.2.1))]) S hK hw (zt_X4_init l g r12.1 h.2.1 r8 x1 r12.2 _ er13) rfl zm_525 zm_526 zq_X4_init zm_84 (by decide +kernel) ⟨Nat.le_of_ble_eq_true rfl, Nat.le_of_ble_eq_true rfl⟩ rfl hl.1 rfl (by simp [zv_cat, zv_ci, zv_cj]) zd_X9_addRevision_22 ⟨(by show (((0 + 1) + 0) + 1) + (1 : Nat) ≤ (4 : Nat); omega), (by show (((0 + 5) + 0) + 40) + (40 : Nat) ≤ (125 : Nat); omega)⟩ (fun H locs hw => ?_)
  replace hw : zc_W g r13 H locs := hw
  refine W.widen (k := ((((0 + 1) + 0) + 1) + 1)) (n := ((((0 + 5) + 0) + 40) + 40)) (Nat.le_refl _) (Nat.le_refl _) ?_
  refine zl_astore_n (i := 2) (lv' := [(2, va_rf ((some h.2.1))), (0, va_rf ((some q))), (1, va_rf (x1))]) hx hb zd_X9_addRevision_25 rfl hl (by decide) (by simp [List.filter, zv_cat, zv_ci, zv_cj]) (fun ls hl => ?_)
  refine zl_aload_n hx hb zd_X9_addRevision_26 rfl (lv_at hl 1 rfl) ?_
  replace hf := zo_b hf; obtain ⟨v14, ev14, hf⟩ := hf
  obtain ⟨u15, u15e, u15v⟩ := zo_b ev14
  obtain rfl := zv_r_e u15v
  refine zw_get S hK hw zk_9 (k := 1) (by decide) rfl zm_308 (Or.inl rfl) u15e zd_X9_addRevision_27 ?_
  replace hf := zo_b hf; obtain ⟨a16, na16, hf⟩ := hf
  refine W.eq (g2 := F0 m 30 ls [va_rf ((some a16))]) (by rw [na16] <;> rfl) ?_
  replace hf := zo_b hf; obtain ⟨v17, ev17, hf⟩ := hf
  obtain ⟨u18, u18e, u18v⟩ := zo_b ev17
  obtain rfl := zv_r_e u18v
  refine zw_get S hK hw zk_6 (k := 0) (by decide) rfl zm_132 (Or.inl rfl) u18e zd_X9_addRevision_30 ?_
  refine zl_aload_n hx hb zd_X9_addRevision_33 rfl (lv_at hl 0 rfl) ?_
  replace hf := zo_b hf; obtain ⟨a19, na19, hf⟩ := hf
  refine W.eq (g2 := F0 m 34 ls [va_rf ((some h.2.1)), va_rf ((some a19))]) (by rw [na19] <;> rfl) ?_
  replace hf := zo_b hf; obtain ⟨r20, er20, hf⟩ := hf
  refine zw_callV (n := 1) (ci := 11) (q := zc_cl[11]) (As := [va_rf ((some h.2.1))]) (rest := []) S hK hw (zt_Jx4a65c_add_9ea2d l g r13 a19 (some h.2.1) _ er20) zm_549 zm_550 zm_551 zq_Jx4a65c_add_9ea2d zm_72 (by decide +kernel) ⟨Nat.le_of_ble_eq_true rfl, Nat.le_of_ble_eq_true rfl⟩ rfl rfl rfl (zi_Jx4a65c_add_9ea2d er20) hl.1 rfl (by simp [zv_cat, zv_ci, zv_cj]) zd_X9_addRevision_34 ⟨(by show ((((0 + 1) + 0) + 1) + 1) + (1 : Nat) ≤ (4 : Nat); omega), (by show ((((0 + 5) + 0) + 40) + 40) + (40 : Nat) ≤ (125 : Nat); omega)⟩ (fun H locs hw => ?_)
  replace hw : zc_W g r20.1 H locs := hw
  refine W.widen (k := (((((0 + 1) + 0) + 1) + 1) + 1)) (n := (((((0 + 5) + 0) + 40) + 40) + 40)) (Nat.le_refl _) (Nat.le_refl _) ?_
  refine lv_pop hx hb zd_X9_addRevision_37 rfl ?_
  refine zl_aload_n hx hb zd_X9_addRevision_38 rfl (lv_at hl 0 rfl) ?_
  refine zl_aload_n hx hb zd_X9_addRevision_39 rfl (lv_at hl 1 rfl) ?_
  replace hf := zo_b hf; obtain ⟨v21, ev21, hf⟩ := hf
  obtain ⟨u22, u22e, u22v⟩ := zo_b ev21
  obtain rfl := zv_r_e u22v
  refine zw_get S hK hw zk_9 (k := 7) (by decide) rfl zm_314 (Or.inl rfl) u22e zd_X9_addRevision_40 ?_
  refine zl_aload_n hx hb zd_X9_addRevision_43 rfl (lv_at hl 1 rfl) ?_
  replace hf := zo_b hf; obtain ⟨v23, ev23, hf⟩ := hf
  obtain ⟨u24, u24e, u24v⟩ := zo_b ev23
  obtain rfl := zv_r_e u24v
  refine zw_get S hK hw zk_9 (k := 1) (by decide) rfl zm_308 (Or.inl rfl) u24e zd_X9_addRevision_44 ?_
  replace hf := zo_b hf; obtain ⟨a25, na25, hf⟩ := hf
  refine W.eq (g2 := F0 m 47 ls [va_rf ((some a25)), va_rf (v21), va_rf ((some h.2.1))]) (by rw [na25] <;> rfl) ?_
  replace hf := zo_b hf; obtain ⟨v26, ev26, hf⟩ := hf
  obtain ⟨u27, u27e, u27v⟩ := zo_b ev26
  obtain rfl := zv_i_e u27v
  refine zw_get S hK hw zk_6 (k := 3) (by decide) rfl zm_139 (Or.inl rfl) u27e zd_X9_addRevision_47 ?_
  replace hf := zo_b hf; obtain ⟨r28, er28, hf⟩ := hf
  refine zw_callV (n := 2) (ci := 4) (q := zc_cl[4]) (As := [va_rf (v21), .int (v26)]) (rest := []) S hK hw (zt_X4_readyStep l g r20.1 h.2.1 v21 v26 _ er28) zm_602 zm_603 zm_604 zq_X4_readyStep zm_84 (by decide +kernel) ⟨Nat.le_of_ble_eq_true rfl, Nat.le_of_ble_eq_true rfl⟩ rfl rfl rfl (zi_X4_readyStep er28) hl.1 rfl (by simp [zv_cat, zv_ci, zv_cj]) zd_X9_addRevision_50 ⟨(by show (((((0 + 1) + 0) + 1) + 1) + 1) + (0 : Nat) ≤ (4 : Nat); omega), (by show (((((0 + 5) + 0) + 40) + 40) + 40) + (0 : Nat) ≤ (125 : Nat); omega)⟩ (fun H locs hw => ?_)
  replace hw : zc_W g r28 H locs := hw
  refine W.widen (k := ((((((0 + 1) + 0) + 1) + 1) + 1) + 0)) (n := ((((((0 + 5) + 0) + 40) + 40) + 40) + 0)) (Nat.le_refl _) (Nat.le_refl _) ?_
  refine zl_aload_n hx hb zd_X9_addRevision_53 rfl (lv_at hl 0 rfl) ?_
  have hres := Option.some.inj hf; subst hres
  exact zw_aret hx hb hr (by first | exact Or.inl ⟨_, rfl⟩ | exact Or.inr ⟨_, rfl⟩) hlk hw zd_X9_addRevision_54 (by show _ ≤ (4 : Nat); omega) (by show _ ≤ (125 : Nat); omega)
def zf_X9_revise (h : zc_H) (q : Nat) (x1 : Int32) (x2 : Int32) : Option (zc_H × Int32) :=
  if ¬ zf_is h q 9 = true then none else
  (zf_X9_shelfAt h q x1).bind fun r1 =>
  (zf_gr h q 9 1).bind fun v2 =>
  v2.bind fun a4 =>
  (zf_X6_revisionAt h a4 x2).bind fun r5 =>
  let k30 := fun (_ : Unit) =>
    (zf_X9_refuse h q (-1)).bind fun r7 =>
    some (r7.1, r7.2)
  if r1 = none then
    k30 ()
  else
  let k36 := fun (_ : Unit) =>
    (zf_X9_unfitAsRow h r1).bind fun r9 =>
    if r9 = 0 then
      (zf_gr h q 9 6).bind fun v11 =>
      v11.bind fun a13 =>
      (zf_X0_readText h a13 r1).bind fun r14 =>
      (zf_p r14.1 q 9 5 (.int (r14.2))).bind fun h15 =>
      (zf_gi h15 q 9 5).bind fun v16 =>
      if v16 = (-1) then
        (zf_gr h15 q 9 1).bind fun v19 =>
        v19.bind fun a21 =>
        (zf_gr h15 a21 6 0).bind fun v22 =>
        v22.bind fun a24 =>
        (zf_Jx4a65c_size_8abf5 h15 a24).bind fun r25 =>
        if r25 < 16 then
          (zf_X9_addRevision h15 q r5).bind fun r27 =>
          r27.2.bind fun a28 =>
          (zf_gi r27.1 a28 4 0).bind fun v29 =>
          some (r27.1, v29)
        else
        (zf_X9_refuse h15 q (-7)).bind fun r31 =>
        some (r31.1, r31.2)
      else
      (zf_X9_refuse h15 q (-6)).bind fun r32 =>
      some (r32.1, r32.2)
    else
    (zf_X9_refuse h q r9).bind fun r33 =>
    some (r33.1, r33.2)
  if x2 = (-1) then
    k36 ()
  else
  if r5 = none then
    k30 ()
  else
  k36 ()
abbrev zr_X9_revise : Room := { frames := 9, cells := 4, slots := 125, locals := 250 }
theorem zi_X9_revise {h : zc_H} {q : Nat} {x1 : Int32} {x2 : Int32} {res : zc_H × Int32} (hf : zf_X9_revise h q x1 x2 = some res) : zf_is h q 9 = true := Decidable.not_not.mp (zo_n hf).1
set_option maxHeartbeats 4000000 in
set_option maxRecDepth 20000 in
theorem zt_X9_revise (l : Launch) (g : zc_G) (h : zc_H) (q : Nat) (x1 : Int32) (x2 : Int32) (res : zc_H × Int32) (hf : zf_X9_revise h q x1 x2 = some res) : zc_M l g yX9_revise cX9_revise 6 (some .int) zr_X9_revise h [va_rf ((some q)), .int (x1), .int (x2)] res.1 (some (.int (res.2))) := by
  refine zc_M.of (by decide) (by simp [lg_sl, zv_cat, zv_ci, zv_cj]) ?_
  intro p e s m below meth c ls S hK hw hr hlk hnm hl
  replace S : CallFix p m c cX9_revise 6 s [va_rf ((some q)), .int (x1), .int (x2)].toArray (zc_ws yX9_revise cX9_revise 6 (some .int)) RX9 := S
  have hx := S.1
  have hb := S.2.1
  replace hl : lv_has ls 6 [(0, va_rf ((some q))), (1, .int (x1)), (2, .int (x2))] := by simpa [lv_args, zv_cat, zv_ci, zv_cj] using hl
  generalize s.heap = H at hw ⊢
  obtain ⟨locs, hlocs⟩ : ∃ L : List Loc, L = [] := ⟨_, rfl⟩
  rw [← hlocs] at hw ⊢
  unfold zf_X9_revise at hf
  obtain ⟨-, hf⟩ := zo_n hf
  refine zl_aload_n hx hb zd_X9_revise_0 rfl (lv_at hl 0 rfl) ?_
  refine lv_iload_n hx hb zd_X9_revise_1 rfl (lv_at hl 1 rfl) ?_
  replace hf := zo_b hf; obtain ⟨r1, er1, hf⟩ := hf
  refine zw_callV (n := 1) (ci := 9) (q := zc_cl[9]) (As := [.int (x1)]) (rest := []) S hK hw (zt_X9_shelfAt l g h q x1 _ er1) zm_345 zm_347 zm_0 zq_X9_shelfAt zm_68 (by decide +kernel) ⟨Nat.le_of_ble_eq_true rfl, Nat.le_of_ble_eq_true rfl⟩ rfl rfl rfl (zi_X9_shelfAt er1) hl.1 rfl (by simp [zv_cat, zv_ci, zv_cj]) zd_X9_revise_2 ⟨(by show 0 + (0 : Nat) ≤ (4 : Nat); omega), (by show 0 + (0 : Nat) ≤ (125 : Nat); omega)⟩ (fun H locs hw => ?_)
  replace hw : zc_W g h H locs := hw
  refine W.widen (k := (0 + 0)) (n := (0 + 0)) (Nat.le_refl _) (Nat.le_refl _) ?_
  refine zl_astore_n (i := 3) (lv' := [(3, va_rf (r1)), (0, va_rf ((some q))), (1, .int (x1)), (2, .int (x2))]) hx hb zd_X9_revise_5 rfl hl (by decide) rfl (fun ls hl => ?_)
  refine zl_aload_n hx hb zd_X9_revise_6 rfl (lv_at hl 1 rfl) ?_
  replace hf := zo_b hf; obtain ⟨v2, ev2, hf⟩ := hf
  obtain ⟨u3, u3e, u3v⟩ := zo_b ev2
  obtain rfl := zv_r_e u3v
  refine zw_get S hK hw zk_9 (k := 1) (by decide) rfl zm_308 (Or.inl rfl) u3e zd_X9_revise_7 ?_
  refine lv_iload_n hx hb zd_X9_revise_10 rfl (lv_at hl 3 rfl) ?_
  replace hf := zo_b hf; obtain ⟨a4, na4, hf⟩ := hf
  refine W.eq (g2 := F0 m 11 ls [.int (x2), va_rf ((some a4))]) (by rw [na4] <;> rfl) ?_
  replace hf := zo_b hf; obtain ⟨r5, er5, hf⟩ := hf
  refine zw_callV (n := 1) (ci := 6) (q := zc_cl[6]) (As := [.int (x2)]) (rest := []) S hK hw (zt_X6_revisionAt l g h a4 x2 _ er5) zm_482 zm_483 zm_484 zq_X6_revisionAt zm_69 (by decide +kernel) ⟨Nat.le_of_ble_eq_true rfl, Nat.le_of_ble_eq_true rfl⟩ rfl rfl rfl (zi_X6_revisionAt er5) hl.1 rfl (by simp [zv_cat, zv_ci, zv_cj]) zd_X9_revise_11 ⟨(by show (0 + 0) + (0 : Nat) ≤ (4 : Nat); omega), (by show (0 + 0) + (0 : Nat) ≤ (125 : Nat); omega)⟩ (fun H locs hw => ?_)
  replace hw : zc_W g h H locs := hw
  refine W.widen (k := ((0 + 0) + 0)) (n := ((0 + 0) + 0)) (Nat.le_refl _) (Nat.le_refl _) ?_
  refine zl_astore (i := 4) (lv' := [(4, va_rf (r5)), (3, va_rf (r1)), (0, va_rf ((some q))), (1, .int (x1)), (2, .int (x2))]) hx hb zd_X9_revise_14 hl (by decide) (by simp [List.filter, zv_cat, zv_ci, zv_cj]) (fun ls hl => ?_)
  refine zl_aload_n hx hb zd_X9_revise_16 rfl (lv_at hl 1 rfl) ?_
  have k30h : ∀ (_ : Unit) (H : Heap) (locs : List Loc) (ls : Array Slot), (
      (zf_X9_refuse h q (-1)).bind fun r7 =>
      some (r7.1, r7.2)
      ) = some res → zc_W g h H locs → lv_has ls 6 [(0, va_rf ((some q)))] → W p l e zr_X9_revise s m [va_rf ((some q)), .int (x1), .int (x2)].toArray below meth c H locs ((0 + 0) + 0) ((0 + 0) + 0) (zc_Q g below zr_X9_revise (some (.int (res.2))) res.1 [va_rf ((some q)), .int (x1), .int (x2)] s) (F0 m 30 ls []) := by
    intro _ H locs ls hf hw hl
    refine zl_aload_n hx hb zd_X9_revise_30 rfl (lv_at hl 0 rfl) ?_
    refine lv_iconst (v := (-1)) hx hb zd_X9_revise_31 (by decide) ?_
    replace hf := zo_b hf; obtain ⟨r7, er7, hf⟩ := hf
    refine zw_callV (n := 1) (ci := 9) (q := zc_cl[9]) (As := [.int ((-1))]) (rest := []) S hK hw (zt_X9_refuse l g h q (-1) _ er7) zm_349 zm_351 zm_1 zq_X9_refuse zm_68 (by decide +kernel) ⟨Nat.le_of_ble_eq_true rfl, Nat.le_of_ble_eq_true rfl⟩ rfl rfl rfl (zi_X9_refuse er7) hl.1 rfl (by simp [zv_cat, zv_ci, zv_cj]) zd_X9_revise_32 ⟨(by show ((0 + 0) + 0) + (0 : Nat) ≤ (4 : Nat); omega), (by show ((0 + 0) + 0) + (0 : Nat) ≤ (125 : Nat); omega)⟩ (fun H locs hw => ?_)
    replace hw : zc_W g r7.1 H locs := hw
    refine W.widen (k := (((0 + 0) + 0) + 0)) (n := (((0 + 0) + 0) + 0)) (Nat.le_refl _) (Nat.le_refl _) ?_
    have hres := Option.some.inj hf; subst hres
    exact zw_iret (v := r7.2) (ty := .int) hx hb hr hlk rfl hw zd_X9_revise_35 (by show _ ≤ (4 : Nat); omega) (by show _ ≤ (125 : Nat); omega)
  refine zl_ifnull (tgt := 30) hx hb zd_X9_revise_17 (by decide) (fun c6 => ?_) (fun c6 => ?_)
  · replace hf := zo_t c6 hf
    exact k30h () _ _ _ hf hw (lv_sub hl [2] rfl)
  · replace hf := zo_f c6 hf
    refine lv_iload_n hx hb zd_X9_revise_20 rfl (lv_at hl 4 rfl) ?_
    refine lv_iconst (v := (-1)) hx hb zd_X9_revise_21 (by decide) ?_
    have k36h : ∀ (_ : Unit) (H : Heap) (locs : List Loc) (ls : Array Slot), (
        (zf_X9_unfitAsRow h r1).bind fun r9 =>
        if r9 = 0 then
          (zf_gr h q 9 6).bind fun v11 =>
          v11.bind fun a13 =>
          (zf_X0_readText h a13 r1).bind fun r14 =>
          (zf_p r14.1 q 9 5 (.int (r14.2))).bind fun h15 =>
          (zf_gi h15 q 9 5).bind fun v16 =>
          if v16 = (-1) then
            (zf_gr h15 q 9 1).bind fun v19 =>
            v19.bind fun a21 =>
            (zf_gr h15 a21 6 0).bind fun v22 =>
            v22.bind fun a24 =>
            (zf_Jx4a65c_size_8abf5 h15 a24).bind fun r25 =>
            if r25 < 16 then
              (zf_X9_addRevision h15 q r5).bind fun r27 =>
              r27.2.bind fun a28 =>
              (zf_gi r27.1 a28 4 0).bind fun v29 =>
              some (r27.1, v29)
            else
            (zf_X9_refuse h15 q (-7)).bind fun r31 =>
            some (r31.1, r31.2)
          else
          (zf_X9_refuse h15 q (-6)).bind fun r32 =>
          some (r32.1, r32.2)
        else
        (zf_X9_refuse h q r9).bind fun r33 =>
        some (r33.1, r33.2)
        ) = some res → zc_W g h H locs → lv_has ls 6 [(0, va_rf ((some q))), (3, va_rf (r1)), (4, va_rf (r5))] → W p l e zr_X9_revise s m [va_rf ((some q)), .int (x1), .int (x2)].toArray below meth c H locs ((0 + 0) + 0) ((0 + 0) + 0) (zc_Q g below zr_X9_revise (some (.int (res.2))) res.1 [va_rf ((some q)), .int (x1), .int (x2)] s) (F0 m 36 ls []) := by
      intro _ H locs ls hf hw hl
      refine zl_aload_n hx hb zd_X9_revise_36 rfl (lv_at hl 1 rfl) ?_
      replace hf := zo_b hf; obtain ⟨r9, er9, hf⟩ := hf
      refine zw_callS (n := 1) (As := [va_rf (r1)]) (rest := []) S hK hw (zt_X9_unfitAsRow l g h r1 _ er9) zm_364 zm_365 zq_X9_unfitAsRow zm_68 (by decide +kernel) ⟨Nat.le_of_ble_eq_true rfl, Nat.le_of_ble_eq_true rfl⟩ rfl hl.1 rfl (by simp [zv_cat, zv_ci, zv_cj]) zd_X9_revise_37 ⟨(by show ((0 + 0) + 0) + (0 : Nat) ≤ (4 : Nat); omega), (by show ((0 + 0) + 0) + (0 : Nat) ≤ (125 : Nat); omega)⟩ (fun H locs hw => ?_)
      replace hw : zc_W g h H locs := hw
      refine W.widen (k := (((0 + 0) + 0) + 0)) (n := (((0 + 0) + 0) + 0)) (Nat.le_refl _) (Nat.le_refl _) ?_
      refine lv_istore (i := 5) (lv' := [(5, .int (r9)), (0, va_rf ((some q))), (3, va_rf (r1)), (4, va_rf (r5))]) hx hb zd_X9_revise_40 hl (by decide) (by simp [List.filter, zv_cat, zv_ci, zv_cj]) (fun ls hl => ?_)
      refine lv_iload hx hb zd_X9_revise_42 (lv_at hl 0 rfl) ?_
      refine lv_if_eq (tgt := 54) hx hb zd_X9_revise_44 (by decide) (fun c10 => ?_) (fun c10 => ?_)
      · replace hf := zo_t c10 hf
        refine zl_aload_n hx hb zd_X9_revise_54 rfl (lv_at hl 1 rfl) ?_
        refine zl_aload_n hx hb zd_X9_revise_55 rfl (lv_at hl 1 rfl) ?_
        replace hf := zo_b hf; obtain ⟨v11, ev11, hf⟩ := hf
        obtain ⟨u12, u12e, u12v⟩ := zo_b ev11
        obtain rfl := zv_r_e u12v
        refine zw_get S hK hw zk_9 (k := 6) (by decide) rfl zm_313 (Or.inl rfl) u12e zd_X9_revise_56 ?_
        refine zl_aload_n hx hb zd_X9_revise_59 rfl (lv_at hl 2 rfl) ?_
        replace hf := zo_b hf; obtain ⟨a13, na13, hf⟩ := hf
        refine W.eq (g2 := F0 m 60 ls [va_rf (r1), va_rf ((some a13)), va_rf ((some q))]) (by rw [na13] <;> rfl) ?_
        replace hf := zo_b hf; obtain ⟨r14, er14, hf⟩ := hf
        refine zw_callV (n := 1) (ci := 0) (q := zc_cl[0]) (As := [va_rf (r1)]) (rest := [va_rf ((some q))]) S hK hw (zt_X0_readText l g h a13 r1 _ er14) zm_487 zm_488 zm_489 zq_X0_readText zm_73 (by decide +kernel) ⟨Nat.le_of_ble_eq_true rfl, Nat.le_of_ble_eq_true rfl⟩ rfl rfl rfl (zi_X0_readText er14) hl.1 rfl (by simp [zv_cat, zv_ci, zv_cj]) zd_X9_revise_60 ⟨(by show (((0 + 0) + 0) + 0) + (0 : Nat) ≤ (4 : Nat); omega), (by show (((0 + 0) + 0) + 0) + (0 : Nat) ≤ (125 : Nat); omega)⟩ (fun H locs hw => ?_)
        replace hw : zc_W g r14.1 H locs := hw
        refine W.widen (k := ((((0 + 0) + 0) + 0) + 0)) (n := ((((0 + 0) + 0) + 0) + 0)) (Nat.le_refl _) (Nat.le_refl _) ?_
        replace hf := zo_b hf; obtain ⟨h15, eh15, hf⟩ := hf
        refine zw_put S hK hw zk_9 (k := 5) (by decide) rfl zm_312 (Or.inl rfl) eh15 (ty := .int) (by decide +kernel) rfl rfl zd_X9_revise_63 (fun H locs hw => ?_)
        refine zl_aload_n hx hb zd_X9_revise_66 rfl (lv_at hl 1 rfl) ?_
        replace hf := zo_b hf; obtain ⟨v16, ev16, hf⟩ := hf
        obtain ⟨u17, u17e, u17v⟩ := zo_b ev16
        obtain rfl := zv_i_e u17v
        refine zw_get S hK hw zk_9 (k := 5) (by decide) rfl zm_312 (Or.inl rfl) u17e zd_X9_revise_67 ?_
        refine lv_iconst (v := (-1)) hx hb zd_X9_revise_70 (by decide) ?_
        refine lv_icmp_eq (tgt := 81) hx hb zd_X9_revise_71 (by decide) (fun c18 => ?_) (fun c18 => ?_)
        · replace hf := zo_t c18 hf
          refine zl_aload_n hx hb zd_X9_revise_81 rfl (lv_at hl 1 rfl) ?_
          replace hf := zo_b hf; obtain ⟨v19, ev19, hf⟩ := hf
          obtain ⟨u20, u20e, u20v⟩ := zo_b ev19
          obtain rfl := zv_r_e u20v
          refine zw_get S hK hw zk_9 (k := 1) (by decide) rfl zm_308 (Or.inl rfl) u20e zd_X9_revise_82 ?_
          replace hf := zo_b hf; obtain ⟨a21, na21, hf⟩ := hf
          refine W.eq (g2 := F0 m 85 ls [va_rf ((some a21))]) (by rw [na21] <;> rfl) ?_
          replace hf := zo_b hf; obtain ⟨v22, ev22, hf⟩ := hf
          obtain ⟨u23, u23e, u23v⟩ := zo_b ev22
          obtain rfl := zv_r_e u23v
          refine zw_get S hK hw zk_6 (k := 0) (by decide) rfl zm_132 (Or.inl rfl) u23e zd_X9_revise_85 ?_
          replace hf := zo_b hf; obtain ⟨a24, na24, hf⟩ := hf
          refine W.eq (g2 := F0 m 88 ls [va_rf ((some a24))]) (by rw [na24] <;> rfl) ?_
          replace hf := zo_b hf; obtain ⟨r25, er25, hf⟩ := hf
          refine zw_callV (n := 0) (ci := 11) (q := zc_cl[11]) (As := []) (rest := []) S hK hw (zt_Jx4a65c_size_8abf5 l g h15 a24 _ er25) zm_500 zm_425 zm_426 zq_Jx4a65c_size_8abf5 zm_72 (by decide +kernel) ⟨Nat.le_of_ble_eq_true rfl, Nat.le_of_ble_eq_true rfl⟩ rfl rfl rfl (zi_Jx4a65c_size_8abf5 er25) hl.1 rfl (by simp [zv_cat, zv_ci, zv_cj]) zd_X9_revise_88 ⟨(by show ((((0 + 0) + 0) + 0) + 0) + (0 : Nat) ≤ (4 : Nat); omega), (by show ((((0 + 0) + 0) + 0) + 0) + (0 : Nat) ≤ (125 : Nat); omega)⟩ (fun H locs hw => ?_)
          replace hw : zc_W g h15 H locs := hw
          refine W.widen (k := (((((0 + 0) + 0) + 0) + 0) + 0)) (n := (((((0 + 0) + 0) + 0) + 0) + 0)) (Nat.le_refl _) (Nat.le_refl _) ?_
          refine lv_bipush (v := 16) hx hb zd_X9_revise_91 (by decide) ?_
          refine lv_icmp_lt (tgt := 103) hx hb zd_X9_revise_93 (by decide) (fun c26 => ?_) (fun c26 => ?_)
          · replace hf := zo_t c26 hf
            refine zl_aload_n hx hb zd_X9_revise_103 rfl (lv_at hl 1 rfl) ?_
            refine zl_aload hx hb zd_X9_revise_104 (lv_at hl 3 rfl) ?_
            replace hf := zo_b hf; obtain ⟨r27, er27, hf⟩ := hf
            refine zw_callV (n := 1) (ci := 9) (q := zc_cl[9]) (As := [va_rf (r5)]) (rest := []) S hK hw (zt_X9_addRevision l g h15 q r5 _ er27) zm_501 zm_503 zm_3 zq_X9_addRevision zm_68 (by decide +kernel) ⟨Nat.le_of_ble_eq_true rfl, Nat.le_of_ble_eq_true rfl⟩ rfl rfl rfl (zi_X9_addRevision er27) hl.1 rfl (by simp [zv_cat, zv_ci, zv_cj]) zd_X9_revise_106 ⟨(by show (((((0 + 0) + 0) + 0) + 0) + 0) + (4 : Nat) ≤ (4 : Nat); omega), (by show (((((0 + 0) + 0) + 0) + 0) + 0) + (125 : Nat) ≤ (125 : Nat); omega)⟩ (fun H locs hw => ?_)
            replace hw : zc_W g r27.1 H locs := hw
            refine W.widen (k := ((((((0 + 0) + 0) + 0) + 0) + 0) + 4)) (n := ((((((0 + 0) + 0) + 0) + 0) + 0) + 125)) (Nat.le_refl _) (Nat.le_refl _) ?_
            replace hf := zo_b hf; obtain ⟨a28, na28, hf⟩ := hf
            refine W.eq (g2 := F0 m 109 ls [va_rf ((some a28))]) (by rw [na28] <;> rfl) ?_
            replace hf := zo_b hf; obtain ⟨v29, ev29, hf⟩ := hf
            obtain ⟨u30, u30e, u30v⟩ := zo_b ev29
            obtain rfl := zv_i_e u30v
            refine zw_get S hK hw zk_4 (k := 0) (by decide) rfl zm_531 (Or.inl rfl) u30e zd_X9_revise_109 ?_
            have hres := Option.some.inj hf; subst hres
            exact zw_iret (v := v29) (ty := .int) hx hb hr hlk rfl hw zd_X9_revise_112 (by show _ ≤ (4 : Nat); omega) (by show _ ≤ (125 : Nat); omega)
          · replace hf := zo_f c26 hf
            refine zl_aload_n hx hb zd_X9_revise_96 rfl (lv_at hl 1 rfl) ?_
            refine lv_bipush (v := (-7)) hx hb zd_X9_revise_97 (by decide) ?_
            replace hf := zo_b hf; obtain ⟨r31, er31, hf⟩ := hf
            refine zw_callV (n := 1) (ci := 9) (q := zc_cl[9]) (As := [.int ((-7))]) (rest := []) S hK hw (zt_X9_refuse l g h15 q (-7) _ er31) zm_349 zm_351 zm_1 zq_X9_refuse zm_68 (by decide +kernel) ⟨Nat.le_of_ble_eq_true rfl, Nat.le_of_ble_eq_true rfl⟩ rfl rfl rfl (zi_X9_refuse er31) hl.1 rfl (by simp [zv_cat, zv_ci, zv_cj]) zd_X9_revise_99 ⟨(by show (((((0 + 0) + 0) + 0) + 0) + 0) + (0 : Nat) ≤ (4 : Nat); omega), (by show (((((0 + 0) + 0) + 0) + 0) + 0) + (0 : Nat) ≤ (125 : Nat); omega)⟩ (fun H locs hw => ?_)
            replace hw : zc_W g r31.1 H locs := hw
            refine W.widen (k := ((((((0 + 0) + 0) + 0) + 0) + 0) + 0)) (n := ((((((0 + 0) + 0) + 0) + 0) + 0) + 0)) (Nat.le_refl _) (Nat.le_refl _) ?_
            have hres := Option.some.inj hf; subst hres
            exact zw_iret (v := r31.2) (ty := .int) hx hb hr hlk rfl hw zd_X9_revise_102 (by show _ ≤ (4 : Nat); omega) (by show _ ≤ (125 : Nat); omega)
        · replace hf := zo_f c18 hf
          refine zl_aload_n hx hb zd_X9_revise_74 rfl (lv_at hl 1 rfl) ?_
          refine lv_bipush (v := (-6)) hx hb zd_X9_revise_75 (by decide) ?_
          replace hf := zo_b hf; obtain ⟨r32, er32, hf⟩ := hf
          refine zw_callV (n := 1) (ci := 9) (q := zc_cl[9]) (As := [.int ((-6))]) (rest := []) S hK hw (zt_X9_refuse l g h15 q (-6) _ er32) zm_349 zm_351 zm_1 zq_X9_refuse zm_68 (by decide +kernel) ⟨Nat.le_of_ble_eq_true rfl, Nat.le_of_ble_eq_true rfl⟩ rfl rfl rfl (zi_X9_refuse er32) hl.1 rfl (by simp [zv_cat, zv_ci, zv_cj]) zd_X9_revise_77 ⟨(by show ((((0 + 0) + 0) + 0) + 0) + (0 : Nat) ≤ (4 : Nat); omega), (by show ((((0 + 0) + 0) + 0) + 0) + (0 : Nat) ≤ (125 : Nat); omega)⟩ (fun H locs hw => ?_)
          replace hw : zc_W g r32.1 H locs := hw
          refine W.widen (k := (((((0 + 0) + 0) + 0) + 0) + 0)) (n := (((((0 + 0) + 0) + 0) + 0) + 0)) (Nat.le_refl _) (Nat.le_refl _) ?_
          have hres := Option.some.inj hf; subst hres
          exact zw_iret (v := r32.2) (ty := .int) hx hb hr hlk rfl hw zd_X9_revise_80 (by show _ ≤ (4 : Nat); omega) (by show _ ≤ (125 : Nat); omega)
      · replace hf := zo_f c10 hf
        refine zl_aload_n hx hb zd_X9_revise_47 rfl (lv_at hl 1 rfl) ?_
        refine lv_iload hx hb zd_X9_revise_48 (lv_at hl 0 rfl) ?_
        replace hf := zo_b hf; obtain ⟨r33, er33, hf⟩ := hf
        refine zw_callV (n := 1) (ci := 9) (q := zc_cl[9]) (As := [.int (r9)]) (rest := []) S hK hw (zt_X9_refuse l g h q r9 _ er33) zm_349 zm_351 zm_1 zq_X9_refuse zm_68 (by decide +kernel) ⟨Nat.le_of_ble_eq_true rfl, Nat.le_of_ble_eq_true rfl⟩ rfl rfl rfl (zi_X9_refuse er33) hl.1 rfl (by simp [zv_cat, zv_ci, zv_cj]) zd_X9_revise_50 ⟨(by show (((0 + 0) + 0) + 0) + (0 : Nat) ≤ (4 : Nat); omega), (by show (((0 + 0) + 0) + 0) + (0 : Nat) ≤ (125 : Nat); omega)⟩ (fun H locs hw => ?_)
        replace hw : zc_W g r33.1 H locs := hw
        refine W.widen (k := ((((0 + 0) + 0) + 0) + 0)) (n := ((((0 + 0) + 0) + 0) + 0)) (Nat.le_refl _) (Nat.le_refl _) ?_
        have hres := Option.some.inj hf; subst hres
        exact zw_iret (v := r33.2) (ty := .int) hx hb hr hlk rfl hw zd_X9_revise_53 (by show _ ≤ (4 : Nat); omega) (by show _ ≤ (125 : Nat); omega)
    refine lv_icmp_eq (tgt := 36) hx hb zd_X9_revise_22 (by decide) (fun c8 => ?_) (fun c8 => ?_)
    · replace hf := zo_t c8 hf
      exact k36h () _ _ _ hf hw (lv_sub hl [2, 1, 0] rfl)
    · replace hf := zo_f c8 hf
      refine zl_aload hx hb zd_X9_revise_25 (lv_at hl 0 rfl) ?_
      refine zl_ifnonnull (tgt := 36) hx hb zd_X9_revise_27 (by decide) (fun c34 => ?_) (fun c34 => ?_)
      · replace hf := zo_f c34 hf
        exact k36h () _ _ _ hf hw (lv_sub hl [2, 1, 0] rfl)
      · replace hf := zo_t c34 hf
        exact k30h () _ _ _ hf hw (lv_sub hl [2] rfl)
def zf_X9_fault (h : zc_H) (q : Nat) : Option (Int32) :=
  if ¬ zf_is h q 9 = true then none else
  (zf_gi h q 9 5).bind fun v1 =>
  some v1
abbrev zr_X9_fault : Room := { frames := 0, cells := 0, slots := 0, locals := 0 }
theorem zi_X9_fault {h : zc_H} {q : Nat} {res : Int32} (hf : zf_X9_fault h q = some res) : zf_is h q 9 = true := Decidable.not_not.mp (zo_n hf).1
set_option maxHeartbeats 4000000 in
set_option maxRecDepth 20000 in
theorem zt_X9_fault (l : Launch) (g : zc_G) (h : zc_H) (q : Nat) (res : Int32) (hf : zf_X9_fault h q = some res) : zc_M l g yX9_fault cX9_fault 1 (some .int) zr_X9_fault h [va_rf ((some q))] h (some (.int (res))) := by
  refine zc_M.of (by decide) (by simp [lg_sl, zv_cat, zv_ci, zv_cj]) ?_
  intro p e s m below meth c ls S hK hw hr hlk hnm hl
  replace S : CallFix p m c cX9_fault 1 s [va_rf ((some q))].toArray (zc_ws yX9_fault cX9_fault 1 (some .int)) RX9 := S
  have hx := S.1
  have hb := S.2.1
  replace hl : lv_has ls 1 [(0, va_rf ((some q)))] := by simpa [lv_args, zv_cat, zv_ci, zv_cj] using hl
  generalize s.heap = H at hw ⊢
  obtain ⟨locs, hlocs⟩ : ∃ L : List Loc, L = [] := ⟨_, rfl⟩
  rw [← hlocs] at hw ⊢
  unfold zf_X9_fault at hf
  obtain ⟨-, hf⟩ := zo_n hf
  refine zl_aload_n hx hb zd_X9_fault_0 rfl (lv_at hl 0 rfl) ?_
  replace hf := zo_b hf; obtain ⟨v1, ev1, hf⟩ := hf
  obtain ⟨u2, u2e, u2v⟩ := zo_b ev1
  obtain rfl := zv_i_e u2v
  refine zw_get S hK hw zk_9 (k := 5) (by decide) rfl zm_312 (Or.inl rfl) u2e zd_X9_fault_1 ?_
  have hres := Option.some.inj hf; subst hres
  exact zw_iret (v := v1) (ty := .int) hx hb hr hlk rfl hw zd_X9_fault_4 (Nat.le_refl 0) (Nat.le_refl 0)
def zf_X9_lines (h : zc_H) (q : Nat) (x1 : Int32) : Option (zc_H × Int32) :=
  if ¬ zf_is h q 9 = true then none else
  (zf_gr h q 9 1).bind fun v1 =>
  v1.bind fun a3 =>
  (zf_X6_revisionAt h a3 x1).bind fun r4 =>
  if r4 = none then
    (zf_X9_refuse h q (-1)).bind fun r8 =>
    some (r8.1, r8.2)
  else
  r4.bind fun a6 =>
  (zf_X4_count h a6).bind fun r7 =>
  some (h, r7)
abbrev zr_X9_lines : Room := { frames := 4, cells := 0, slots := 0, locals := 85 }
theorem zi_X9_lines {h : zc_H} {q : Nat} {x1 : Int32} {res : zc_H × Int32} (hf : zf_X9_lines h q x1 = some res) : zf_is h q 9 = true := Decidable.not_not.mp (zo_n hf).1
set_option maxHeartbeats 4000000 in
set_option maxRecDepth 20000 in
theorem zt_X9_lines (l : Launch) (g : zc_G) (h : zc_H) (q : Nat) (x1 : Int32) (res : zc_H × Int32) (hf : zf_X9_lines h q x1 = some res) : zc_M l g yX9_lines cX9_lines 3 (some .int) zr_X9_lines h [va_rf ((some q)), .int (x1)] res.1 (some (.int (res.2))) := by
  refine zc_M.of (by decide) (by simp [lg_sl, zv_cat, zv_ci, zv_cj]) ?_
  intro p e s m below meth c ls S hK hw hr hlk hnm hl
  replace S : CallFix p m c cX9_lines 3 s [va_rf ((some q)), .int (x1)].toArray (zc_ws yX9_lines cX9_lines 3 (some .int)) RX9 := S
  have hx := S.1
  have hb := S.2.1
  replace hl : lv_has ls 3 [(0, va_rf ((some q))), (1, .int (x1))] := by simpa [lv_args, zv_cat, zv_ci, zv_cj] using hl
  generalize s.heap = H at hw ⊢
  obtain ⟨locs, hlocs⟩ : ∃ L : List Loc, L = [] := ⟨_, rfl⟩
  rw [← hlocs] at hw ⊢
  unfold zf_X9_lines at hf
  obtain ⟨-, hf⟩ := zo_n hf
  refine zl_aload_n hx hb zd_X9_lines_0 rfl (lv_at hl 0 rfl) ?_
  replace hf := zo_b hf; obtain ⟨v1, ev1, hf⟩ := hf
  obtain ⟨u2, u2e, u2v⟩ := zo_b ev1
  obtain rfl := zv_r_e u2v
  refine zw_get S hK hw zk_9 (k := 1) (by decide) rfl zm_308 (Or.inl rfl) u2e zd_X9_lines_1 ?_
  refine lv_iload_n hx hb zd_X9_lines_4 rfl (lv_at hl 1 rfl) ?_
  replace hf := zo_b hf; obtain ⟨a3, na3, hf⟩ := hf
  refine W.eq (g2 := F0 m 5 ls [.int (x1), va_rf ((some a3))]) (by rw [na3] <;> rfl) ?_
  replace hf := zo_b hf; obtain ⟨r4, er4, hf⟩ := hf
  refine zw_callV (n := 1) (ci := 6) (q := zc_cl[6]) (As := [.int (x1)]) (rest := []) S hK hw (zt_X6_revisionAt l g h a3 x1 _ er4) zm_482 zm_483 zm_484 zq_X6_revisionAt zm_69 (by decide +kernel) ⟨Nat.le_of_ble_eq_true rfl, Nat.le_of_ble_eq_true rfl⟩ rfl rfl rfl (zi_X6_revisionAt er4) hl.1 rfl (by simp [zv_cat, zv_ci, zv_cj]) zd_X9_lines_5 ⟨(Nat.le_refl 0), (Nat.le_refl 0)⟩ (fun H locs hw => ?_)
  replace hw : zc_W g h H locs := hw
  refine zl_astore_n (i := 2) (lv' := [(2, va_rf (r4)), (0, va_rf ((some q))), (1, .int (x1))]) hx hb zd_X9_lines_8 rfl hl (by decide) rfl (fun ls hl => ?_)
  refine zl_aload_n hx hb zd_X9_lines_9 rfl (lv_at hl 0 rfl) ?_
  refine zl_ifnonnull (tgt := 21) hx hb zd_X9_lines_10 (by decide) (fun c5 => ?_) (fun c5 => ?_)
  · replace hf := zo_f c5 hf
    refine zl_aload_n hx hb zd_X9_lines_21 rfl (lv_at hl 0 rfl) ?_
    replace hf := zo_b hf; obtain ⟨a6, na6, hf⟩ := hf
    refine W.eq (g2 := F0 m 22 ls [va_rf ((some a6))]) (by rw [na6] <;> rfl) ?_
    replace hf := zo_b hf; obtain ⟨r7, er7, hf⟩ := hf
    refine zw_callV (n := 0) (ci := 4) (q := zc_cl[4]) (As := []) (rest := []) S hK hw (zt_X4_count l g h a6 _ er7) zm_662 zm_618 zm_619 zq_X4_count zm_84 (by decide +kernel) ⟨Nat.le_of_ble_eq_true rfl, Nat.le_of_ble_eq_true rfl⟩ rfl rfl rfl (zi_X4_count er7) hl.1 rfl (by simp [zv_cat, zv_ci, zv_cj]) zd_X9_lines_22 ⟨(Nat.le_refl 0), (Nat.le_refl 0)⟩ (fun H locs hw => ?_)
    replace hw : zc_W g h H locs := hw
    have hres := Option.some.inj hf; subst hres
    exact zw_iret (v := r7) (ty := .int) hx hb hr hlk rfl hw zd_X9_lines_25 (Nat.le_refl 0) (Nat.le_refl 0)
  · replace hf := zo_t c5 hf
    refine zl_aload_n hx hb zd_X9_lines_13 rfl (lv_at hl 1 rfl) ?_
    refine lv_iconst (v := (-1)) hx hb zd_X9_lines_14 (by decide) ?_
    replace hf := zo_b hf; obtain ⟨r8, er8, hf⟩ := hf
    refine zw_callV (n := 1) (ci := 9) (q := zc_cl[9]) (As := [.int ((-1))]) (rest := []) S hK hw (zt_X9_refuse l g h q (-1) _ er8) zm_349 zm_351 zm_1 zq_X9_refuse zm_68 (by decide +kernel) ⟨Nat.le_of_ble_eq_true rfl, Nat.le_of_ble_eq_true rfl⟩ rfl rfl rfl (zi_X9_refuse er8) hl.1 rfl (by simp [zv_cat, zv_ci, zv_cj]) zd_X9_lines_15 ⟨(Nat.le_refl 0), (Nat.le_refl 0)⟩ (fun H locs hw => ?_)
    replace hw : zc_W g r8.1 H locs := hw
    refine lv_goto (tgt := 25) hx hb zd_X9_lines_18 (by decide) ?_
    have hres := Option.some.inj hf; subst hres
    exact zw_iret (v := r8.2) (ty := .int) hx hb hr hlk rfl hw zd_X9_lines_25 (Nat.le_refl 0) (Nat.le_refl 0)
def zf_X9_letterOf (h : zc_H) (x0 : Int64) (x2 : Int32) : Option (Int32) :=
  if x2 < 0 then
    some 0
  else
  if x2 < 8 then
    some ((((((x0).toUInt64 >>> (((8 * x2) : Int32).toInt64.toUInt64 &&& Int64.toUInt64 63)).toInt64) : Int64).toInt32) &&& 255)
  else
  some 0
abbrev zr_X9_letterOf : Room := { frames := 0, cells := 0, slots := 0, locals := 0 }
set_option maxHeartbeats 4000000 in
set_option maxRecDepth 20000 in
theorem zt_X9_letterOf (l : Launch) (g : zc_G) (h : zc_H) (x0 : Int64) (x2 : Int32) (res : Int32) (hf : zf_X9_letterOf h x0 x2 = some res) : zc_M l g yX9_letterOf cX9_letterOf 3 (some .int) zr_X9_letterOf h [.long (x0), .int (x2)] h (some (.int (res))) := by
  refine zc_M.of (by decide) (by simp [lg_sl, zv_cat, zv_ci, zv_cj]) ?_
  intro p e s m below meth c ls S hK hw hr hlk hnm hl
  replace S : CallFix p m c cX9_letterOf 3 s [.long (x0), .int (x2)].toArray (zc_ws yX9_letterOf cX9_letterOf 3 (some .int)) RX9 := S
  have hx := S.1
  have hb := S.2.1
  replace hl : lv_has ls 3 [(0, .long (x0)), (2, .int (x2))] := by simpa [lv_args, zv_cat, zv_ci, zv_cj] using hl
  generalize s.heap = H at hw ⊢
  obtain ⟨locs, hlocs⟩ : ∃ L : List Loc, L = [] := ⟨_, rfl⟩
  rw [← hlocs] at hw ⊢
  unfold zf_X9_letterOf at hf
  refine lv_iload_n hx hb zd_X9_letterOf_0 rfl (lv_at hl 1 rfl) ?_
  refine lv_if_lt (tgt := 10) hx hb zd_X9_letterOf_1 (by decide) (fun c1 => ?_) (fun c1 => ?_)
  · replace hf := zo_t c1 hf
    refine lv_iconst (v := 0) hx hb zd_X9_letterOf_10 (by decide) ?_
    refine lv_goto (tgt := 25) hx hb zd_X9_letterOf_11 (by decide) ?_
    have hres := Option.some.inj hf; subst hres
    exact zw_iret (v := 0) (ty := .int) hx hb hr hlk rfl hw zd_X9_letterOf_25 (Nat.le_refl 0) (Nat.le_refl 0)
  · replace hf := zo_f c1 hf
    refine lv_iload_n hx hb zd_X9_letterOf_4 rfl (lv_at hl 1 rfl) ?_
    refine lv_bipush (v := 8) hx hb zd_X9_letterOf_5 (by decide) ?_
    refine lv_icmp_lt (tgt := 14) hx hb zd_X9_letterOf_7 (by decide) (fun c2 => ?_) (fun c2 => ?_)
    · replace hf := zo_t c2 hf
      refine lv_lload_n hx hb zd_X9_letterOf_14 rfl (lv_at hl 0 rfl) ?_
      refine lv_bipush (v := 8) hx hb zd_X9_letterOf_15 (by decide) ?_
      refine lv_iload_n hx hb zd_X9_letterOf_17 rfl (lv_at hl 1 rfl) ?_
      refine lv_imul hx hb zd_X9_letterOf_18 ?_
      refine lv_lushr (v := (((x0).toUInt64 >>> (((8 * x2) : Int32).toInt64.toUInt64 &&& Int64.toUInt64 63)).toInt64)) hx hb zd_X9_letterOf_19 rfl ?_
      refine lv_l2i (v := (((((x0).toUInt64 >>> (((8 * x2) : Int32).toInt64.toUInt64 &&& Int64.toUInt64 63)).toInt64) : Int64).toInt32)) hx hb zd_X9_letterOf_20 rfl ?_
      refine lv_sipush (v := 255) hx hb zd_X9_letterOf_21 (by decide) ?_
      refine lv_iand hx hb zd_X9_letterOf_24 ?_
      have hres := Option.some.inj hf; subst hres
      exact zw_iret (v := ((((((x0).toUInt64 >>> (((8 * x2) : Int32).toInt64.toUInt64 &&& Int64.toUInt64 63)).toInt64) : Int64).toInt32) &&& 255)) (ty := .int) hx hb hr hlk rfl hw zd_X9_letterOf_25 (Nat.le_refl 0) (Nat.le_refl 0)
    · replace hf := zo_f c2 hf
      refine lv_iconst (v := 0) hx hb zd_X9_letterOf_10 (by decide) ?_
      refine lv_goto (tgt := 25) hx hb zd_X9_letterOf_11 (by decide) ?_
      have hres := Option.some.inj hf; subst hres
      exact zw_iret (v := 0) (ty := .int) hx hb hr hlk rfl hw zd_X9_letterOf_25 (Nat.le_refl 0) (Nat.le_refl 0)
def zf_X9_letter (h : zc_H) (q : Nat) (x1 : Int32) (x2 : Int32) (x3 : Int32) : Option (zc_H × Int32) :=
  if ¬ zf_is h q 9 = true then none else
  (zf_gr h q 9 1).bind fun v1 =>
  v1.bind fun a3 =>
  (zf_X6_revisionAt h a3 x1).bind fun r4 =>
  if r4 = none then
    (zf_X9_refuse h q (-1)).bind fun r14 =>
    some (r14.1, r14.2)
  else
  r4.bind fun a6 =>
  (zf_X4_hasLine h a6 x2).bind fun r7 =>
  let k40 := fun (_ : Unit) =>
    (zf_X9_refuse h q (-5)).bind fun r9 =>
    some (r9.1, r9.2)
  if r7 = 0 then
    k40 ()
  else
  if x3 < 0 then
    k40 ()
  else
  if x3 ≤ 8 then
    (zf_X4_lineAt h a6 x2).bind fun r12 =>
    (zf_X9_letterOf h r12 x3).bind fun r13 =>
    some (h, r13)
  else
  k40 ()
abbrev zr_X9_letter : Room := { frames := 4, cells := 0, slots := 0, locals := 85 }
theorem zi_X9_letter {h : zc_H} {q : Nat} {x1 : Int32} {x2 : Int32} {x3 : Int32} {res : zc_H × Int32} (hf : zf_X9_letter h q x1 x2 x3 = some res) : zf_is h q 9 = true := Decidable.not_not.mp (zo_n hf).1
set_option maxHeartbeats 4000000 in
set_option maxRecDepth 20000 in
theorem zt_X9_letter (l : Launch) (g : zc_G) (h : zc_H) (q : Nat) (x1 : Int32) (x2 : Int32) (x3 : Int32) (res : zc_H × Int32) (hf : zf_X9_letter h q x1 x2 x3 = some res) : zc_M l g yX9_letter cX9_letter 5 (some .int) zr_X9_letter h [va_rf ((some q)), .int (x1), .int (x2), .int (x3)] res.1 (some (.int (res.2))) := by
  refine zc_M.of (by decide) (by simp [lg_sl, zv_cat, zv_ci, zv_cj]) ?_
  intro p e s m below meth c ls S hK hw hr hlk hnm hl
  replace S : CallFix p m c cX9_letter 5 s [va_rf ((some q)), .int (x1), .int (x2), .int (x3)].toArray (zc_ws yX9_letter cX9_letter 5 (some .int)) RX9 := S
  have hx := S.1
  have hb := S.2.1
  replace hl : lv_has ls 5 [(0, va_rf ((some q))), (1, .int (x1)), (2, .int (x2)), (3, .int (x3))] := by simpa [lv_args, zv_cat, zv_ci, zv_cj] using hl
  generalize s.heap = H at hw ⊢
  obtain ⟨locs, hlocs⟩ : ∃ L : List Loc, L = [] := ⟨_, rfl⟩
  rw [← hlocs] at hw ⊢
  unfold zf_X9_letter at hf
  obtain ⟨-, hf⟩ := zo_n hf
  refine zl_aload_n hx hb zd_X9_letter_0 rfl (lv_at hl 0 rfl) ?_
  replace hf := zo_b hf; obtain ⟨v1, ev1, hf⟩ := hf
  obtain ⟨u2, u2e, u2v⟩ := zo_b ev1
  obtain rfl := zv_r_e u2v
  refine zw_get S hK hw zk_9 (k := 1) (by decide) rfl zm_308 (Or.inl rfl) u2e zd_X9_letter_1 ?_
  refine lv_iload_n hx hb zd_X9_letter_4 rfl (lv_at hl 1 rfl) ?_
  replace hf := zo_b hf; obtain ⟨a3, na3, hf⟩ := hf
  refine W.eq (g2 := F0 m 5 ls [.int (x1), va_rf ((some a3))]) (by rw [na3] <;> rfl) ?_
  replace hf := zo_b hf; obtain ⟨r4, er4, hf⟩ := hf
  refine zw_callV (n := 1) (ci := 6) (q := zc_cl[6]) (As := [.int (x1)]) (rest := []) S hK hw (zt_X6_revisionAt l g h a3 x1 _ er4) zm_482 zm_483 zm_484 zq_X6_revisionAt zm_69 (by decide +kernel) ⟨Nat.le_of_ble_eq_true rfl, Nat.le_of_ble_eq_true rfl⟩ rfl rfl rfl (zi_X6_revisionAt er4) hl.1 rfl (by simp [zv_cat, zv_ci, zv_cj]) zd_X9_letter_5 ⟨(Nat.le_refl 0), (Nat.le_refl 0)⟩ (fun H locs hw => ?_)
  replace hw : zc_W g h H locs := hw
  refine zl_astore (i := 4) (lv' := [(4, va_rf (r4)), (0, va_rf ((some q))), (1, .int (x1)), (2, .int (x2)), (3, .int (x3))]) hx hb zd_X9_letter_8 hl (by decide) rfl (fun ls hl => ?_)
  refine zl_aload hx hb zd_X9_letter_10 (lv_at hl 0 rfl) ?_
  refine zl_ifnonnull (tgt := 21) hx hb zd_X9_letter_12 (by decide) (fun c5 => ?_) (fun c5 => ?_)
  · replace hf := zo_f c5 hf
    refine zl_aload hx hb zd_X9_letter_21 (lv_at hl 0 rfl) ?_
    refine lv_iload_n hx hb zd_X9_letter_23 rfl (lv_at hl 3 rfl) ?_
    replace hf := zo_b hf; obtain ⟨a6, na6, hf⟩ := hf
    refine W.eq (g2 := F0 m 24 ls [.int (x2), va_rf ((some a6))]) (by rw [na6] <;> rfl) ?_
    replace hf := zo_b hf; obtain ⟨r7, er7, hf⟩ := hf
    refine zw_callV (n := 1) (ci := 4) (q := zc_cl[4]) (As := [.int (x2)]) (rest := []) S hK hw (zt_X4_hasLine l g h a6 x2 _ er7) zm_667 zm_668 zm_669 zq_X4_hasLine zm_84 (by decide +kernel) ⟨Nat.le_of_ble_eq_true rfl, Nat.le_of_ble_eq_true rfl⟩ rfl rfl rfl (zi_X4_hasLine er7) hl.1 rfl (by simp [zv_cat, zv_ci, zv_cj]) zd_X9_letter_24 ⟨(Nat.le_refl 0), (Nat.le_refl 0)⟩ (fun H locs hw => ?_)
    replace hw : zc_W g h H locs := hw
    have k40h : ∀ (_ : Unit) (H : Heap) (locs : List Loc) (ls : Array Slot), (
        (zf_X9_refuse h q (-5)).bind fun r9 =>
        some (r9.1, r9.2)
        ) = some res → zc_W g h H locs → lv_has ls 5 [(0, va_rf ((some q)))] → W p l e zr_X9_letter s m [va_rf ((some q)), .int (x1), .int (x2), .int (x3)].toArray below meth c H locs ((0 + 0) + 0) ((0 + 0) + 0) (zc_Q g below zr_X9_letter (some (.int (res.2))) res.1 [va_rf ((some q)), .int (x1), .int (x2), .int (x3)] s) (F0 m 40 ls []) := by
      intro _ H locs ls hf hw hl
      refine zl_aload_n hx hb zd_X9_letter_40 rfl (lv_at hl 0 rfl) ?_
      refine lv_bipush (v := (-5)) hx hb zd_X9_letter_41 (by decide) ?_
      replace hf := zo_b hf; obtain ⟨r9, er9, hf⟩ := hf
      refine zw_callV (n := 1) (ci := 9) (q := zc_cl[9]) (As := [.int ((-5))]) (rest := []) S hK hw (zt_X9_refuse l g h q (-5) _ er9) zm_349 zm_351 zm_1 zq_X9_refuse zm_68 (by decide +kernel) ⟨Nat.le_of_ble_eq_true rfl, Nat.le_of_ble_eq_true rfl⟩ rfl rfl rfl (zi_X9_refuse er9) hl.1 rfl (by simp [zv_cat, zv_ci, zv_cj]) zd_X9_letter_43 ⟨(Nat.le_refl 0), (Nat.le_refl 0)⟩ (fun H locs hw => ?_)
      replace hw : zc_W g r9.1 H locs := hw
      have hres := Option.some.inj hf; subst hres
      exact zw_iret (v := r9.2) (ty := .int) hx hb hr hlk rfl hw zd_X9_letter_46 (Nat.le_refl 0) (Nat.le_refl 0)
    refine lv_if_eq (tgt := 40) hx hb zd_X9_letter_27 (by decide) (fun c8 => ?_) (fun c8 => ?_)
    · replace hf := zo_t c8 hf
      exact k40h () _ _ _ hf hw (lv_sub hl [1] rfl)
    · replace hf := zo_f c8 hf
      refine lv_iload_n hx hb zd_X9_letter_30 rfl (lv_at hl 4 rfl) ?_
      refine lv_if_lt (tgt := 40) hx hb zd_X9_letter_31 (by decide) (fun c10 => ?_) (fun c10 => ?_)
      · replace hf := zo_t c10 hf
        exact k40h () _ _ _ hf hw (lv_sub hl [1] rfl)
      · replace hf := zo_f c10 hf
        refine lv_iload_n hx hb zd_X9_letter_34 rfl (lv_at hl 4 rfl) ?_
        refine lv_bipush (v := 8) hx hb zd_X9_letter_35 (by decide) ?_
        refine lv_icmp_le (tgt := 47) hx hb zd_X9_letter_37 (by decide) (fun c11 => ?_) (fun c11 => ?_)
        · replace hf := zo_t c11 hf
          refine zl_aload hx hb zd_X9_letter_47 (lv_at hl 0 rfl) ?_
          refine lv_iload_n hx hb zd_X9_letter_49 rfl (lv_at hl 3 rfl) ?_
          refine W.eq (g2 := F0 m 50 ls [.int (x2), va_rf ((some a6))]) (by rw [na6] <;> rfl) ?_
          replace hf := zo_b hf; obtain ⟨r12, er12, hf⟩ := hf
          refine zw_callV (n := 1) (ci := 4) (q := zc_cl[4]) (As := [.int (x2)]) (rest := []) S hK hw (zt_X4_lineAt l g h a6 x2 _ er12) zm_671 zm_622 zm_623 zq_X4_lineAt zm_84 (by decide +kernel) ⟨Nat.le_of_ble_eq_true rfl, Nat.le_of_ble_eq_true rfl⟩ rfl rfl rfl (zi_X4_lineAt er12) hl.1 rfl (by simp [zv_cat, zv_ci, zv_cj]) zd_X9_letter_50 ⟨(Nat.le_refl 0), (Nat.le_refl 0)⟩ (fun H locs hw => ?_)
          replace hw : zc_W g h H locs := hw
          refine lv_iload_n hx hb zd_X9_letter_53 rfl (lv_at hl 4 rfl) ?_
          replace hf := zo_b hf; obtain ⟨r13, er13, hf⟩ := hf
          refine zw_callS (n := 2) (As := [.long (r12), .int (x3)]) (rest := []) S hK hw (zt_X9_letterOf l g h r12 x3 _ er13) zm_672 zm_673 zq_X9_letterOf zm_68 (by decide +kernel) ⟨Nat.le_of_ble_eq_true rfl, Nat.le_of_ble_eq_true rfl⟩ rfl hl.1 rfl (by simp [zv_cat, zv_ci, zv_cj]) zd_X9_letter_54 ⟨(Nat.le_refl 0), (Nat.le_refl 0)⟩ (fun H locs hw => ?_)
          replace hw : zc_W g h H locs := hw
          have hres := Option.some.inj hf; subst hres
          exact zw_iret (v := r13) (ty := .int) hx hb hr hlk rfl hw zd_X9_letter_57 (Nat.le_refl 0) (Nat.le_refl 0)
        · replace hf := zo_f c11 hf
          exact k40h () _ _ _ hf hw (lv_sub hl [1] rfl)
  · replace hf := zo_t c5 hf
    refine zl_aload_n hx hb zd_X9_letter_15 rfl (lv_at hl 1 rfl) ?_
    refine lv_iconst (v := (-1)) hx hb zd_X9_letter_16 (by decide) ?_
    replace hf := zo_b hf; obtain ⟨r14, er14, hf⟩ := hf
    refine zw_callV (n := 1) (ci := 9) (q := zc_cl[9]) (As := [.int ((-1))]) (rest := []) S hK hw (zt_X9_refuse l g h q (-1) _ er14) zm_349 zm_351 zm_1 zq_X9_refuse zm_68 (by decide +kernel) ⟨Nat.le_of_ble_eq_true rfl, Nat.le_of_ble_eq_true rfl⟩ rfl rfl rfl (zi_X9_refuse er14) hl.1 rfl (by simp [zv_cat, zv_ci, zv_cj]) zd_X9_letter_17 ⟨(Nat.le_refl 0), (Nat.le_refl 0)⟩ (fun H locs hw => ?_)
    replace hw : zc_W g r14.1 H locs := hw
    have hres := Option.some.inj hf; subst hres
    exact zw_iret (v := r14.2) (ty := .int) hx hb hr hlk rfl hw zd_X9_letter_20 (Nat.le_refl 0) (Nat.le_refl 0)
