def zf_X10_element (h : zc_H) (q : Nat) (x1 : Int32) (x2 : Int32) : Option (Int64) :=
  if ¬ zf_is h q 10 = true then none else
  (zf_X10_within h x1 0 7).bind fun r1 =>
  if r1 = 0 then
    some 0
  else
  (zf_X10_isRow h q x1).bind fun r3 =>
  if r3 = 0 then
    some 0
  else
  (zf_gr h q 10 10).bind fun v5 =>
  v5.bind fun a7 =>
  (zf_ai h a7 0 x1).bind fun v8 =>
  (zf_X10_within h x2 0 (v8 - 1)).bind fun r9 =>
  if r9 = 0 then
    some 0
  else
  (zf_gr h q 10 11).bind fun v11 =>
  v11.bind fun a13 =>
  (zf_aj h a13 ((160 * x1) + x2)).bind fun v14 =>
  some v14
abbrev zr_X10_element : Room := { frames := 1, cells := 0, slots := 0, locals := 22 }
theorem zi_X10_element {h : zc_H} {q : Nat} {x1 : Int32} {x2 : Int32} {res : Int64} (hf : zf_X10_element h q x1 x2 = some res) : zf_is h q 10 = true := Decidable.not_not.mp (zo_n hf).1
set_option maxHeartbeats 4000000 in
set_option maxRecDepth 20000 in
theorem zt_X10_element (l : Launch) (g : zc_G) (h : zc_H) (q : Nat) (x1 : Int32) (x2 : Int32) (res : Int64) (hf : zf_X10_element h q x1 x2 = some res) : zc_M l g yX10_element cX10_element 3 (some .long) zr_X10_element h [va_rf ((some q)), .int (x1), .int (x2)] h (some (.long (res))) := by
  refine zc_M.of (by decide) (by simp [lg_sl, zv_cat, zv_ci, zv_cj]) ?_
  intro p e s m below meth c ls S hK hw hr hlk hnm hl
  replace S : CallFix p m c cX10_element 3 s [va_rf ((some q)), .int (x1), .int (x2)].toArray (zc_ws yX10_element cX10_element 3 (some .long)) RX10 := S
  have hx := S.1
  have hb := S.2.1
  replace hl : lv_has ls 3 [(0, va_rf ((some q))), (1, .int (x1)), (2, .int (x2))] := by simpa [lv_args, zv_cat, zv_ci, zv_cj] using hl
  generalize s.heap = H at hw ⊢
  obtain ⟨locs, hlocs⟩ : ∃ L : List Loc, L = [] := ⟨_, rfl⟩
  rw [← hlocs] at hw ⊢
  unfold zf_X10_element at hf
  obtain ⟨-, hf⟩ := zo_n hf
  refine lv_iload_n hx hb zd_X10_element_0 rfl (lv_at hl 1 rfl) ?_
  refine lv_iconst (v := 0) hx hb zd_X10_element_1 (by decide) ?_
  refine lv_bipush (v := 7) hx hb zd_X10_element_2 (by decide) ?_
  replace hf := zo_b hf; obtain ⟨r1, er1, hf⟩ := hf
  refine zw_callS (n := 3) (As := [.int (x1), .int (0), .int (7)]) (rest := []) S hK hw (zt_X10_within l g h x1 0 7 _ er1) zm_1216 zm_1217 zq_X10_within zm_79 (by decide +kernel) ⟨Nat.le_of_ble_eq_true rfl, Nat.le_of_ble_eq_true rfl⟩ rfl hl.1 rfl (by simp [zv_cat, zv_ci, zv_cj]) zd_X10_element_4 ⟨(Nat.le_refl 0), (Nat.le_refl 0)⟩ (fun H locs hw => ?_)
  replace hw : zc_W g h H locs := hw
  refine lv_if_eq (tgt := 49) hx hb zd_X10_element_7 (by decide) (fun c2 => ?_) (fun c2 => ?_)
  · replace hf := zo_t c2 hf
    refine lv_lconst (v := 0) hx hb zd_X10_element_49 (by decide) ?_
    have hres := Option.some.inj hf; subst hres
    exact zw_lret hx hb hr hlk hw zd_X10_element_50 (Nat.le_refl 0) (Nat.le_refl 0)
  · replace hf := zo_f c2 hf
    refine zl_aload_n hx hb zd_X10_element_10 rfl (lv_at hl 0 rfl) ?_
    refine lv_iload_n hx hb zd_X10_element_11 rfl (lv_at hl 1 rfl) ?_
    replace hf := zo_b hf; obtain ⟨r3, er3, hf⟩ := hf
    refine zw_callV (n := 1) (ci := 10) (q := zc_cl[10]) (As := [.int (x1)]) (rest := []) S hK hw (zt_X10_isRow l g h q x1 _ er3) zm_1231 zm_1233 zm_26 zq_X10_isRow zm_79 (by decide +kernel) ⟨Nat.le_of_ble_eq_true rfl, Nat.le_of_ble_eq_true rfl⟩ rfl rfl rfl (zi_X10_isRow er3) hl.1 rfl (by simp [zv_cat, zv_ci, zv_cj]) zd_X10_element_12 ⟨(Nat.le_refl 0), (Nat.le_refl 0)⟩ (fun H locs hw => ?_)
    replace hw : zc_W g h H locs := hw
    refine lv_if_eq (tgt := 49) hx hb zd_X10_element_15 (by decide) (fun c4 => ?_) (fun c4 => ?_)
    · replace hf := zo_t c4 hf
      refine lv_lconst (v := 0) hx hb zd_X10_element_49 (by decide) ?_
      have hres := Option.some.inj hf; subst hres
      exact zw_lret hx hb hr hlk hw zd_X10_element_50 (Nat.le_refl 0) (Nat.le_refl 0)
    · replace hf := zo_f c4 hf
      refine lv_iload_n hx hb zd_X10_element_18 rfl (lv_at hl 2 rfl) ?_
      refine lv_iconst (v := 0) hx hb zd_X10_element_19 (by decide) ?_
      refine zl_aload_n hx hb zd_X10_element_20 rfl (lv_at hl 0 rfl) ?_
      replace hf := zo_b hf; obtain ⟨v5, ev5, hf⟩ := hf
      obtain ⟨u6, u6e, u6v⟩ := zo_b ev5
      obtain rfl := zv_r_e u6v
      refine zw_get S hK hw zk_10 (k := 10) (by decide) rfl zm_1098 (Or.inl rfl) u6e zd_X10_element_21 ?_
      refine lv_iload_n hx hb zd_X10_element_24 rfl (lv_at hl 1 rfl) ?_
      replace hf := zo_b hf; obtain ⟨a7, na7, hf⟩ := hf
      refine W.eq (g2 := F0 m 25 ls [.int (x1), va_rf ((some a7)), .int (0), .int (x2)]) (by rw [na7] <;> rfl) ?_
      replace hf := zo_b hf; obtain ⟨v8, ev8, hf⟩ := hf
      refine zw_iald S hK hw ev8 zd_X10_element_25 ?_
      refine lv_iconst (v := 1) hx hb zd_X10_element_26 (by decide) ?_
      refine lv_isub hx hb zd_X10_element_27 ?_
      replace hf := zo_b hf; obtain ⟨r9, er9, hf⟩ := hf
      refine zw_callS (n := 3) (As := [.int (x2), .int (0), .int ((v8 - 1))]) (rest := []) S hK hw (zt_X10_within l g h x2 0 (v8 - 1) _ er9) zm_1216 zm_1217 zq_X10_within zm_79 (by decide +kernel) ⟨Nat.le_of_ble_eq_true rfl, Nat.le_of_ble_eq_true rfl⟩ rfl hl.1 rfl (by simp [zv_cat, zv_ci, zv_cj]) zd_X10_element_28 ⟨(Nat.le_refl 0), (Nat.le_refl 0)⟩ (fun H locs hw => ?_)
      replace hw : zc_W g h H locs := hw
      refine lv_if_eq (tgt := 49) hx hb zd_X10_element_31 (by decide) (fun c10 => ?_) (fun c10 => ?_)
      · replace hf := zo_t c10 hf
        refine lv_lconst (v := 0) hx hb zd_X10_element_49 (by decide) ?_
        have hres := Option.some.inj hf; subst hres
        exact zw_lret hx hb hr hlk hw zd_X10_element_50 (Nat.le_refl 0) (Nat.le_refl 0)
      · replace hf := zo_f c10 hf
        refine zl_aload_n hx hb zd_X10_element_34 rfl (lv_at hl 0 rfl) ?_
        replace hf := zo_b hf; obtain ⟨v11, ev11, hf⟩ := hf
        obtain ⟨u12, u12e, u12v⟩ := zo_b ev11
        obtain rfl := zv_r_e u12v
        refine zw_get S hK hw zk_10 (k := 11) (by decide) rfl zm_1099 (Or.inl rfl) u12e zd_X10_element_35 ?_
        refine lv_sipush (v := 160) hx hb zd_X10_element_38 (by decide) ?_
        refine lv_iload_n hx hb zd_X10_element_41 rfl (lv_at hl 1 rfl) ?_
        refine lv_imul hx hb zd_X10_element_42 ?_
        refine lv_iload_n hx hb zd_X10_element_43 rfl (lv_at hl 2 rfl) ?_
        refine lv_iadd hx hb zd_X10_element_44 ?_
        replace hf := zo_b hf; obtain ⟨a13, na13, hf⟩ := hf
        refine W.eq (g2 := F0 m 45 ls [.int (((160 * x1) + x2)), va_rf ((some a13))]) (by rw [na13] <;> rfl) ?_
        replace hf := zo_b hf; obtain ⟨v14, ev14, hf⟩ := hf
        refine zw_lald S hK hw ev14 zd_X10_element_45 ?_
        refine lv_goto (tgt := 50) hx hb zd_X10_element_46 (by decide) ?_
        have hres := Option.some.inj hf; subst hres
        exact zw_lret hx hb hr hlk hw zd_X10_element_50 (Nat.le_refl 0) (Nat.le_refl 0)
def zf_X10_show (h : zc_H) (q : Nat) (x1 : Int32) (x2 : Int32) : Option (zc_H × Int32) :=
  if ¬ zf_is h q 10 = true then none else
  (zf_X10_within h x1 0 7).bind fun r1 =>
  let k23 := fun (_ : Unit) =>
    (zf_X10_no h q (-1)).bind fun r3 =>
    some (r3.1, r3.2)
  if r1 = 0 then
    k23 ()
  else
  let k29 := fun (_ : Unit) =>
    (zf_gr h q 10 9).bind fun v5 =>
    v5.bind fun a7 =>
    (zf_si h a7 0 x1 x2).bind fun h8 =>
    if x2 = (-1) then
      some (h8, 0)
    else
    some (h8, 1)
  if x2 = (-1) then
    k29 ()
  else
  (zf_X10_isRemark h q x2).bind fun r10 =>
  if r10 = 0 then
    k23 ()
  else
  k29 ()
abbrev zr_X10_show : Room := { frames := 2, cells := 0, slots := 0, locals := 43 }
theorem zi_X10_show {h : zc_H} {q : Nat} {x1 : Int32} {x2 : Int32} {res : zc_H × Int32} (hf : zf_X10_show h q x1 x2 = some res) : zf_is h q 10 = true := Decidable.not_not.mp (zo_n hf).1
set_option maxHeartbeats 4000000 in
set_option maxRecDepth 20000 in
theorem zt_X10_show (l : Launch) (g : zc_G) (h : zc_H) (q : Nat) (x1 : Int32) (x2 : Int32) (res : zc_H × Int32) (hf : zf_X10_show h q x1 x2 = some res) : zc_M l g yX10_show cX10_show 3 (some .int) zr_X10_show h [va_rf ((some q)), .int (x1), .int (x2)] res.1 (some (.int (res.2))) := by
  refine zc_M.of (by decide) (by simp [lg_sl, zv_cat, zv_ci, zv_cj]) ?_
  intro p e s m below meth c ls S hK hw hr hlk hnm hl
  replace S : CallFix p m c cX10_show 3 s [va_rf ((some q)), .int (x1), .int (x2)].toArray (zc_ws yX10_show cX10_show 3 (some .int)) RX10 := S
  have hx := S.1
  have hb := S.2.1
  replace hl : lv_has ls 3 [(0, va_rf ((some q))), (1, .int (x1)), (2, .int (x2))] := by simpa [lv_args, zv_cat, zv_ci, zv_cj] using hl
  generalize s.heap = H at hw ⊢
  obtain ⟨locs, hlocs⟩ : ∃ L : List Loc, L = [] := ⟨_, rfl⟩
  rw [← hlocs] at hw ⊢
  unfold zf_X10_show at hf
  obtain ⟨-, hf⟩ := zo_n hf
  refine lv_iload_n hx hb zd_X10_show_0 rfl (lv_at hl 1 rfl) ?_
  refine lv_iconst (v := 0) hx hb zd_X10_show_1 (by decide) ?_
  refine lv_bipush (v := 7) hx hb zd_X10_show_2 (by decide) ?_
  replace hf := zo_b hf; obtain ⟨r1, er1, hf⟩ := hf
  refine zw_callS (n := 3) (As := [.int (x1), .int (0), .int (7)]) (rest := []) S hK hw (zt_X10_within l g h x1 0 7 _ er1) zm_1216 zm_1217 zq_X10_within zm_79 (by decide +kernel) ⟨Nat.le_of_ble_eq_true rfl, Nat.le_of_ble_eq_true rfl⟩ rfl hl.1 rfl (by simp [zv_cat, zv_ci, zv_cj]) zd_X10_show_4 ⟨(Nat.le_refl 0), (Nat.le_refl 0)⟩ (fun H locs hw => ?_)
  replace hw : zc_W g h H locs := hw
  have k23h : ∀ (_ : Unit) (H : Heap) (locs : List Loc) (ls : Array Slot), (
      (zf_X10_no h q (-1)).bind fun r3 =>
      some (r3.1, r3.2)
      ) = some res → zc_W g h H locs → lv_has ls 3 [(0, va_rf ((some q)))] → W p l e zr_X10_show s m [va_rf ((some q)), .int (x1), .int (x2)].toArray below meth c H locs (0 + 0) (0 + 0) (zc_Q g below zr_X10_show (some (.int (res.2))) res.1 [va_rf ((some q)), .int (x1), .int (x2)] s) (F0 m 23 ls []) := by
    intro _ H locs ls hf hw hl
    refine zl_aload_n hx hb zd_X10_show_23 rfl (lv_at hl 0 rfl) ?_
    refine lv_iconst (v := (-1)) hx hb zd_X10_show_24 (by decide) ?_
    replace hf := zo_b hf; obtain ⟨r3, er3, hf⟩ := hf
    refine zw_callV (n := 1) (ci := 10) (q := zc_cl[10]) (As := [.int ((-1))]) (rest := []) S hK hw (zt_X10_no l g h q (-1) _ er3) zm_1219 zm_1221 zm_24 zq_X10_no zm_79 (by decide +kernel) ⟨Nat.le_of_ble_eq_true rfl, Nat.le_of_ble_eq_true rfl⟩ rfl rfl rfl (zi_X10_no er3) hl.1 rfl (by simp [zv_cat, zv_ci, zv_cj]) zd_X10_show_25 ⟨(Nat.le_refl 0), (Nat.le_refl 0)⟩ (fun H locs hw => ?_)
    replace hw : zc_W g r3.1 H locs := hw
    have hres := Option.some.inj hf; subst hres
    exact zw_iret (v := r3.2) (ty := .int) hx hb hr hlk rfl hw zd_X10_show_28 (Nat.le_refl 0) (Nat.le_refl 0)
  refine lv_if_eq (tgt := 23) hx hb zd_X10_show_7 (by decide) (fun c2 => ?_) (fun c2 => ?_)
  · replace hf := zo_t c2 hf
    exact k23h () _ _ _ hf hw (lv_sub hl [0] rfl)
  · replace hf := zo_f c2 hf
    refine lv_iload_n hx hb zd_X10_show_10 rfl (lv_at hl 2 rfl) ?_
    refine lv_iconst (v := (-1)) hx hb zd_X10_show_11 (by decide) ?_
    have k29h : ∀ (_ : Unit) (H : Heap) (locs : List Loc) (ls : Array Slot), (
        (zf_gr h q 10 9).bind fun v5 =>
        v5.bind fun a7 =>
        (zf_si h a7 0 x1 x2).bind fun h8 =>
        if x2 = (-1) then
          some (h8, 0)
        else
        some (h8, 1)
        ) = some res → zc_W g h H locs → lv_has ls 3 [(0, va_rf ((some q))), (1, .int (x1)), (2, .int (x2))] → W p l e zr_X10_show s m [va_rf ((some q)), .int (x1), .int (x2)].toArray below meth c H locs (0 + 0) (0 + 0) (zc_Q g below zr_X10_show (some (.int (res.2))) res.1 [va_rf ((some q)), .int (x1), .int (x2)] s) (F0 m 29 ls []) := by
      intro _ H locs ls hf hw hl
      refine zl_aload_n hx hb zd_X10_show_29 rfl (lv_at hl 0 rfl) ?_
      replace hf := zo_b hf; obtain ⟨v5, ev5, hf⟩ := hf
      obtain ⟨u6, u6e, u6v⟩ := zo_b ev5
      obtain rfl := zv_r_e u6v
      refine zw_get S hK hw zk_10 (k := 9) (by decide) rfl zm_1097 (Or.inl rfl) u6e zd_X10_show_30 ?_
      refine lv_iload_n hx hb zd_X10_show_33 rfl (lv_at hl 1 rfl) ?_
      refine lv_iload_n hx hb zd_X10_show_34 rfl (lv_at hl 2 rfl) ?_
      replace hf := zo_b hf; obtain ⟨a7, na7, hf⟩ := hf
      refine W.eq (g2 := F0 m 35 ls [.int (x2), .int (x1), va_rf ((some a7))]) (by rw [na7] <;> rfl) ?_
      replace hf := zo_b hf; obtain ⟨h8, eh8, hf⟩ := hf
      refine zw_iast S hK hw eh8 zd_X10_show_35 (fun H locs hw => ?_)
      refine lv_iload_n hx hb zd_X10_show_36 rfl (lv_at hl 2 rfl) ?_
      refine lv_iconst (v := (-1)) hx hb zd_X10_show_37 (by decide) ?_
      refine lv_icmp_ne (tgt := 45) hx hb zd_X10_show_38 (by decide) (fun c9 => ?_) (fun c9 => ?_)
      · replace hf := zo_f c9 hf
        refine lv_iconst (v := 1) hx hb zd_X10_show_45 (by decide) ?_
        have hres := Option.some.inj hf; subst hres
        exact zw_iret (v := 1) (ty := .int) hx hb hr hlk rfl hw zd_X10_show_46 (Nat.le_refl 0) (Nat.le_refl 0)
      · replace hf := zo_t c9 hf
        refine lv_iconst (v := 0) hx hb zd_X10_show_41 (by decide) ?_
        refine lv_goto (tgt := 46) hx hb zd_X10_show_42 (by decide) ?_
        have hres := Option.some.inj hf; subst hres
        exact zw_iret (v := 0) (ty := .int) hx hb hr hlk rfl hw zd_X10_show_46 (Nat.le_refl 0) (Nat.le_refl 0)
    refine lv_icmp_eq (tgt := 29) hx hb zd_X10_show_12 (by decide) (fun c4 => ?_) (fun c4 => ?_)
    · replace hf := zo_t c4 hf
      exact k29h () _ _ _ hf hw (lv_sub hl [0, 1, 2] rfl)
    · replace hf := zo_f c4 hf
      refine zl_aload_n hx hb zd_X10_show_15 rfl (lv_at hl 0 rfl) ?_
      refine lv_iload_n hx hb zd_X10_show_16 rfl (lv_at hl 2 rfl) ?_
      replace hf := zo_b hf; obtain ⟨r10, er10, hf⟩ := hf
      refine zw_callV (n := 1) (ci := 10) (q := zc_cl[10]) (As := [.int (x2)]) (rest := []) S hK hw (zt_X10_isRemark l g h q x2 _ er10) zm_1247 zm_1249 zm_27 zq_X10_isRemark zm_79 (by decide +kernel) ⟨Nat.le_of_ble_eq_true rfl, Nat.le_of_ble_eq_true rfl⟩ rfl rfl rfl (zi_X10_isRemark er10) hl.1 rfl (by simp [zv_cat, zv_ci, zv_cj]) zd_X10_show_17 ⟨(Nat.le_refl 0), (Nat.le_refl 0)⟩ (fun H locs hw => ?_)
      replace hw : zc_W g h H locs := hw
      refine lv_if_ne (tgt := 29) hx hb zd_X10_show_20 (by decide) (fun c11 => ?_) (fun c11 => ?_)
      · replace hf := zo_f c11 hf
        exact k29h () _ _ _ hf hw (lv_sub hl [0, 1, 2] rfl)
      · replace hf := zo_t c11 hf
        exact k23h () _ _ _ hf hw (lv_sub hl [0] rfl)
def zf_X10_holds (h : zc_H) (q : Nat) (x1 : Int32) : Option (Int32) :=
  if ¬ zf_is h q 10 = true then none else
  (zf_X10_within h x1 0 7).bind fun r1 =>
  if r1 = 0 then
    some (-1)
  else
  (zf_gr h q 10 9).bind fun v3 =>
  v3.bind fun a5 =>
  (zf_ai h a5 0 x1).bind fun v6 =>
  some v6
abbrev zr_X10_holds : Room := { frames := 1, cells := 0, slots := 0, locals := 22 }
theorem zi_X10_holds {h : zc_H} {q : Nat} {x1 : Int32} {res : Int32} (hf : zf_X10_holds h q x1 = some res) : zf_is h q 10 = true := Decidable.not_not.mp (zo_n hf).1
set_option maxHeartbeats 4000000 in
set_option maxRecDepth 20000 in
theorem zt_X10_holds (l : Launch) (g : zc_G) (h : zc_H) (q : Nat) (x1 : Int32) (res : Int32) (hf : zf_X10_holds h q x1 = some res) : zc_M l g yX10_holds cX10_holds 2 (some .int) zr_X10_holds h [va_rf ((some q)), .int (x1)] h (some (.int (res))) := by
  refine zc_M.of (by decide) (by simp [lg_sl, zv_cat, zv_ci, zv_cj]) ?_
  intro p e s m below meth c ls S hK hw hr hlk hnm hl
  replace S : CallFix p m c cX10_holds 2 s [va_rf ((some q)), .int (x1)].toArray (zc_ws yX10_holds cX10_holds 2 (some .int)) RX10 := S
  have hx := S.1
  have hb := S.2.1
  replace hl : lv_has ls 2 [(0, va_rf ((some q))), (1, .int (x1))] := by simpa [lv_args, zv_cat, zv_ci, zv_cj] using hl
  generalize s.heap = H at hw ⊢
  obtain ⟨locs, hlocs⟩ : ∃ L : List Loc, L = [] := ⟨_, rfl⟩
  rw [← hlocs] at hw ⊢
  unfold zf_X10_holds at hf
  obtain ⟨-, hf⟩ := zo_n hf
  refine lv_iload_n hx hb zd_X10_holds_0 rfl (lv_at hl 1 rfl) ?_
  refine lv_iconst (v := 0) hx hb zd_X10_holds_1 (by decide) ?_
  refine lv_bipush (v := 7) hx hb zd_X10_holds_2 (by decide) ?_
  replace hf := zo_b hf; obtain ⟨r1, er1, hf⟩ := hf
  refine zw_callS (n := 3) (As := [.int (x1), .int (0), .int (7)]) (rest := []) S hK hw (zt_X10_within l g h x1 0 7 _ er1) zm_1216 zm_1217 zq_X10_within zm_79 (by decide +kernel) ⟨Nat.le_of_ble_eq_true rfl, Nat.le_of_ble_eq_true rfl⟩ rfl hl.1 rfl (by simp [zv_cat, zv_ci, zv_cj]) zd_X10_holds_4 ⟨(Nat.le_refl 0), (Nat.le_refl 0)⟩ (fun H locs hw => ?_)
  replace hw : zc_W g h H locs := hw
  refine lv_if_eq (tgt := 19) hx hb zd_X10_holds_7 (by decide) (fun c2 => ?_) (fun c2 => ?_)
  · replace hf := zo_t c2 hf
    refine lv_iconst (v := (-1)) hx hb zd_X10_holds_19 (by decide) ?_
    have hres := Option.some.inj hf; subst hres
    exact zw_iret (v := (-1)) (ty := .int) hx hb hr hlk rfl hw zd_X10_holds_20 (Nat.le_refl 0) (Nat.le_refl 0)
  · replace hf := zo_f c2 hf
    refine zl_aload_n hx hb zd_X10_holds_10 rfl (lv_at hl 0 rfl) ?_
    replace hf := zo_b hf; obtain ⟨v3, ev3, hf⟩ := hf
    obtain ⟨u4, u4e, u4v⟩ := zo_b ev3
    obtain rfl := zv_r_e u4v
    refine zw_get S hK hw zk_10 (k := 9) (by decide) rfl zm_1097 (Or.inl rfl) u4e zd_X10_holds_11 ?_
    refine lv_iload_n hx hb zd_X10_holds_14 rfl (lv_at hl 1 rfl) ?_
    replace hf := zo_b hf; obtain ⟨a5, na5, hf⟩ := hf
    refine W.eq (g2 := F0 m 15 ls [.int (x1), va_rf ((some a5))]) (by rw [na5] <;> rfl) ?_
    replace hf := zo_b hf; obtain ⟨v6, ev6, hf⟩ := hf
    refine zw_iald S hK hw ev6 zd_X10_holds_15 ?_
    refine lv_goto (tgt := 20) hx hb zd_X10_holds_16 (by decide) ?_
    have hres := Option.some.inj hf; subst hres
    exact zw_iret (v := v6) (ty := .int) hx hb hr hlk rfl hw zd_X10_holds_20 (Nat.le_refl 0) (Nat.le_refl 0)
def zf_X10_above (h : zc_H) (x0 : Int32) : Option (Int32) :=
  if x0 = 3 then
    some 1
  else
  if x0 = 5 then
    some 2
  else
  if x0 = 6 then
    some 3
  else
  some 0
abbrev zr_X10_above : Room := { frames := 0, cells := 0, slots := 0, locals := 0 }
set_option maxHeartbeats 4000000 in
set_option maxRecDepth 20000 in
theorem zt_X10_above (l : Launch) (g : zc_G) (h : zc_H) (x0 : Int32) (res : Int32) (hf : zf_X10_above h x0 = some res) : zc_M l g yX10_above cX10_above 1 (some .int) zr_X10_above h [.int (x0)] h (some (.int (res))) := by
  refine zc_M.of (by decide) (by simp [lg_sl, zv_cat, zv_ci, zv_cj]) ?_
  intro p e s m below meth c ls S hK hw hr hlk hnm hl
  replace S : CallFix p m c cX10_above 1 s [.int (x0)].toArray (zc_ws yX10_above cX10_above 1 (some .int)) RX10 := S
  have hx := S.1
  have hb := S.2.1
  replace hl : lv_has ls 1 [(0, .int (x0))] := by simpa [lv_args, zv_cat, zv_ci, zv_cj] using hl
  generalize s.heap = H at hw ⊢
  obtain ⟨locs, hlocs⟩ : ∃ L : List Loc, L = [] := ⟨_, rfl⟩
  rw [← hlocs] at hw ⊢
  unfold zf_X10_above at hf
  refine lv_iload_n hx hb zd_X10_above_0 rfl (lv_at hl 0 rfl) ?_
  refine lv_iconst (v := 3) hx hb zd_X10_above_1 (by decide) ?_
  refine lv_icmp_ne (tgt := 9) hx hb zd_X10_above_2 (by decide) (fun c1 => ?_) (fun c1 => ?_)
  · replace hf := zo_f c1 hf
    refine lv_iload_n hx hb zd_X10_above_9 rfl (lv_at hl 0 rfl) ?_
    refine lv_iconst (v := 5) hx hb zd_X10_above_10 (by decide) ?_
    refine lv_icmp_ne (tgt := 18) hx hb zd_X10_above_11 (by decide) (fun c2 => ?_) (fun c2 => ?_)
    · replace hf := zo_f c2 hf
      refine lv_iload_n hx hb zd_X10_above_18 rfl (lv_at hl 0 rfl) ?_
      refine lv_bipush (v := 6) hx hb zd_X10_above_19 (by decide) ?_
      refine lv_icmp_ne (tgt := 28) hx hb zd_X10_above_21 (by decide) (fun c3 => ?_) (fun c3 => ?_)
      · replace hf := zo_f c3 hf
        refine lv_iconst (v := 0) hx hb zd_X10_above_28 (by decide) ?_
        have hres := Option.some.inj hf; subst hres
        exact zw_iret (v := 0) (ty := .int) hx hb hr hlk rfl hw zd_X10_above_29 (Nat.le_refl 0) (Nat.le_refl 0)
      · replace hf := zo_t c3 hf
        refine lv_iconst (v := 3) hx hb zd_X10_above_24 (by decide) ?_
        refine lv_goto (tgt := 29) hx hb zd_X10_above_25 (by decide) ?_
        have hres := Option.some.inj hf; subst hres
        exact zw_iret (v := 3) (ty := .int) hx hb hr hlk rfl hw zd_X10_above_29 (Nat.le_refl 0) (Nat.le_refl 0)
    · replace hf := zo_t c2 hf
      refine lv_iconst (v := 2) hx hb zd_X10_above_14 (by decide) ?_
      refine lv_goto (tgt := 29) hx hb zd_X10_above_15 (by decide) ?_
      have hres := Option.some.inj hf; subst hres
      exact zw_iret (v := 2) (ty := .int) hx hb hr hlk rfl hw zd_X10_above_29 (Nat.le_refl 0) (Nat.le_refl 0)
  · replace hf := zo_t c1 hf
    refine lv_iconst (v := 1) hx hb zd_X10_above_5 (by decide) ?_
    refine lv_goto (tgt := 29) hx hb zd_X10_above_6 (by decide) ?_
    have hres := Option.some.inj hf; subst hres
    exact zw_iret (v := 1) (ty := .int) hx hb hr hlk rfl hw zd_X10_above_29 (Nat.le_refl 0) (Nat.le_refl 0)
def zf_X10_isUnder_L2 (h : zc_H) (y1 : Int32) : Nat → Int32 → Option (Int32)
  | 0, _ => none
  | n + 1, y2 =>
    if y2 = y1 then
      some y2
    else
    if y2 ≤ 0 then
      some y2
    else
    (zf_X10_above h y2).bind fun r3 =>
    zf_X10_isUnder_L2 h y1 n r3
def zf_X10_isUnder (h : zc_H) (x0 : Int32) (x1 : Int32) : Option (Int32) :=
  (zf_X10_isUnder_L2 h x1 2000 x0).bind fun w4 =>
  if w4 = x1 then
    some 1
  else
  some 0
abbrev zr_X10_isUnder : Room := { frames := 1, cells := 0, slots := 0, locals := 20 }
set_option maxHeartbeats 4000000 in
set_option maxRecDepth 20000 in
theorem zt_X10_isUnder (l : Launch) (g : zc_G) (h : zc_H) (x0 : Int32) (x1 : Int32) (res : Int32) (hf : zf_X10_isUnder h x0 x1 = some res) : zc_M l g yX10_isUnder cX10_isUnder 3 (some .boolean) zr_X10_isUnder h [.int (x0), .int (x1)] h (some (.int (res))) := by
  refine zc_M.of (by decide) (by simp [lg_sl, zv_cat, zv_ci, zv_cj]) ?_
  intro p e s m below meth c ls S hK hw hr hlk hnm hl
  replace S : CallFix p m c cX10_isUnder 3 s [.int (x0), .int (x1)].toArray (zc_ws yX10_isUnder cX10_isUnder 3 (some .boolean)) RX10 := S
  have hx := S.1
  have hb := S.2.1
  replace hl : lv_has ls 3 [(0, .int (x0)), (1, .int (x1))] := by simpa [lv_args, zv_cat, zv_ci, zv_cj] using hl
  generalize s.heap = H at hw ⊢
  obtain ⟨locs, hlocs⟩ : ∃ L : List Loc, L = [] := ⟨_, rfl⟩
  rw [← hlocs] at hw ⊢
  have L2 : ∀ (h : zc_H) (y1 : Int32) (n : Nat) (y2 : Int32) (w : Int32) (H : Heap) (locs : List Loc) (ls : Array Slot), zf_X10_isUnder_L2 h y1 n y2 = some w → zc_W g h H locs → lv_has ls 3 [(1, .int (y1)), (2, .int (y2))] → (∀ (H : Heap) (locs : List Loc) (ls : Array Slot), zc_W g h H locs → lv_has ls 3 [(1, .int (y1)), (2, .int (w))] → W p l e zr_X10_isUnder s m [.int (x0), .int (x1)].toArray below meth c H locs 0 0 (zc_Q g below zr_X10_isUnder (some (.int (res))) h [.int (x0), .int (x1)] s) (F0 m 19 ls [])) → W p l e zr_X10_isUnder s m [.int (x0), .int (x1)].toArray below meth c H locs 0 0 (zc_Q g below zr_X10_isUnder (some (.int (res))) h [.int (x0), .int (x1)] s) (F0 m 2 ls []) := by
    intro h y1 n
    induction n with
    | zero =>
      intro y2 w H locs ls hf
      cases hf
    | succ n ih =>
      intro y2 w H locs ls hf hw hl  kk
      unfold zf_X10_isUnder_L2 at hf
      refine lv_iload_n hx hb zd_X10_isUnder_2 rfl (lv_at hl 1 rfl) ?_
      refine lv_iload_n hx hb zd_X10_isUnder_3 rfl (lv_at hl 0 rfl) ?_
      refine lv_icmp_eq (tgt := 19) hx hb zd_X10_isUnder_4 (by decide) (fun c1 => ?_) (fun c1 => ?_)
      · replace hf := zo_t c1 hf
        have hres := Option.some.inj hf; subst hres
        exact kk _ _ _ hw (lv_sub hl [0, 1] rfl)
      · replace hf := zo_f c1 hf
        refine lv_iload_n hx hb zd_X10_isUnder_7 rfl (lv_at hl 1 rfl) ?_
        refine lv_if_le (tgt := 19) hx hb zd_X10_isUnder_8 (by decide) (fun c2 => ?_) (fun c2 => ?_)
        · replace hf := zo_t c2 hf
          have hres := Option.some.inj hf; subst hres
          exact kk _ _ _ hw (lv_sub hl [0, 1] rfl)
        · replace hf := zo_f c2 hf
          refine lv_iload_n hx hb zd_X10_isUnder_11 rfl (lv_at hl 1 rfl) ?_
          replace hf := zo_b hf; obtain ⟨r3, er3, hf⟩ := hf
          refine zw_callS (n := 1) (As := [.int (y2)]) (rest := []) S hK hw (zt_X10_above l g h y2 _ er3) zm_1266 zm_1267 zq_X10_above zm_79 (by decide +kernel) ⟨Nat.le_of_ble_eq_true rfl, Nat.le_of_ble_eq_true rfl⟩ rfl hl.1 rfl (by simp [zv_cat, zv_ci, zv_cj]) zd_X10_isUnder_12 ⟨(Nat.le_refl 0), (Nat.le_refl 0)⟩ (fun H locs hw => ?_)
          replace hw : zc_W g h H locs := hw
          refine lv_istore_n (i := 2) (lv' := [(2, .int (r3)), (1, .int (y1))]) hx hb zd_X10_isUnder_15 rfl hl (by decide) rfl (fun ls hl => ?_)
          refine lv_goto (tgt := 2) hx hb zd_X10_isUnder_16 (by decide) ?_
          exact ih r3 _ _ _ _ hf hw (lv_sub hl [1, 0] rfl) kk
  unfold zf_X10_isUnder at hf
  refine lv_iload_n hx hb zd_X10_isUnder_0 rfl (lv_at hl 0 rfl) ?_
  refine lv_istore_n (i := 2) (lv' := [(2, .int (x0)), (0, .int (x0)), (1, .int (x1))]) hx hb zd_X10_isUnder_1 rfl hl (by decide) rfl (fun ls hl => ?_)
  replace hf := zo_b hf; obtain ⟨w4, w4e, hf⟩ := hf
  refine L2 h x1 2000 x0 _ _ _ _ w4e hw (lv_sub hl [2, 0] rfl) (fun H locs ls hw hl => ?_)
  refine lv_iload_n hx hb zd_X10_isUnder_19 rfl (lv_at hl 1 rfl) ?_
  refine lv_iload_n hx hb zd_X10_isUnder_20 rfl (lv_at hl 0 rfl) ?_
  refine lv_icmp_ne (tgt := 28) hx hb zd_X10_isUnder_21 (by decide) (fun c5 => ?_) (fun c5 => ?_)
  · replace hf := zo_f c5 hf
    refine lv_iconst (v := 0) hx hb zd_X10_isUnder_28 (by decide) ?_
    have hres := Option.some.inj hf; subst hres
    exact zw_iret (v := 0) (ty := .boolean) hx hb hr hlk rfl hw zd_X10_isUnder_29 (Nat.le_refl 0) (Nat.le_refl 0)
  · replace hf := zo_t c5 hf
    refine lv_iconst (v := 1) hx hb zd_X10_isUnder_24 (by decide) ?_
    refine lv_goto (tgt := 29) hx hb zd_X10_isUnder_25 (by decide) ?_
    have hres := Option.some.inj hf; subst hres
    exact zw_iret (v := 1) (ty := .boolean) hx hb hr hlk rfl hw zd_X10_isUnder_29 (Nat.le_refl 0) (Nat.le_refl 0)
def zf_X10_of (h : zc_H) (q : Nat) (x1 : Int32) (x2 : Int32) : Option (Int32) :=
  if ¬ zf_is h q 10 = true then none else
  (zf_gr h q 10 6).bind fun v1 =>
  v1.bind fun a3 =>
  (zf_ai h a3 0 ((16 * x1) + x2)).bind fun v4 =>
  some v4
abbrev zr_X10_of : Room := { frames := 0, cells := 0, slots := 0, locals := 0 }
theorem zi_X10_of {h : zc_H} {q : Nat} {x1 : Int32} {x2 : Int32} {res : Int32} (hf : zf_X10_of h q x1 x2 = some res) : zf_is h q 10 = true := Decidable.not_not.mp (zo_n hf).1
set_option maxHeartbeats 4000000 in
set_option maxRecDepth 20000 in
theorem zt_X10_of (l : Launch) (g : zc_G) (h : zc_H) (q : Nat) (x1 : Int32) (x2 : Int32) (res : Int32) (hf : zf_X10_of h q x1 x2 = some res) : zc_M l g yX10_of cX10_of 3 (some .int) zr_X10_of h [va_rf ((some q)), .int (x1), .int (x2)] h (some (.int (res))) := by
  refine zc_M.of (by decide) (by simp [lg_sl, zv_cat, zv_ci, zv_cj]) ?_
  intro p e s m below meth c ls S hK hw hr hlk hnm hl
  replace S : CallFix p m c cX10_of 3 s [va_rf ((some q)), .int (x1), .int (x2)].toArray (zc_ws yX10_of cX10_of 3 (some .int)) RX10 := S
  have hx := S.1
  have hb := S.2.1
  replace hl : lv_has ls 3 [(0, va_rf ((some q))), (1, .int (x1)), (2, .int (x2))] := by simpa [lv_args, zv_cat, zv_ci, zv_cj] using hl
  generalize s.heap = H at hw ⊢
  obtain ⟨locs, hlocs⟩ : ∃ L : List Loc, L = [] := ⟨_, rfl⟩
  rw [← hlocs] at hw ⊢
  unfold zf_X10_of at hf
  obtain ⟨-, hf⟩ := zo_n hf
  refine zl_aload_n hx hb zd_X10_of_0 rfl (lv_at hl 0 rfl) ?_
  replace hf := zo_b hf; obtain ⟨v1, ev1, hf⟩ := hf
  obtain ⟨u2, u2e, u2v⟩ := zo_b ev1
  obtain rfl := zv_r_e u2v
  refine zw_get S hK hw zk_10 (k := 6) (by decide) rfl zm_1094 (Or.inl rfl) u2e zd_X10_of_1 ?_
  refine lv_bipush (v := 16) hx hb zd_X10_of_4 (by decide) ?_
  refine lv_iload_n hx hb zd_X10_of_6 rfl (lv_at hl 1 rfl) ?_
  refine lv_imul hx hb zd_X10_of_7 ?_
  refine lv_iload_n hx hb zd_X10_of_8 rfl (lv_at hl 2 rfl) ?_
  refine lv_iadd hx hb zd_X10_of_9 ?_
  replace hf := zo_b hf; obtain ⟨a3, na3, hf⟩ := hf
  refine W.eq (g2 := F0 m 10 ls [.int (((16 * x1) + x2)), va_rf ((some a3))]) (by rw [na3] <;> rfl) ?_
  replace hf := zo_b hf; obtain ⟨v4, ev4, hf⟩ := hf
  refine zw_iald S hK hw ev4 zd_X10_of_10 ?_
  have hres := Option.some.inj hf; subst hres
  exact zw_iret (v := v4) (ty := .int) hx hb hr hlk rfl hw zd_X10_of_11 (Nat.le_refl 0) (Nat.le_refl 0)
def zf_X10_says (h : zc_H) (q : Nat) (x1 : Int32) (x2 : Int32) : Option (zc_H × Int32) :=
  if ¬ zf_is h q 10 = true then none else
  (zf_X10_within h x1 0 7).bind fun r1 =>
  let k20 := fun (_ : Unit) =>
    (zf_X10_no h q (-1)).bind fun r3 =>
    some (r3.1, r3.2)
  if r1 = 0 then
    k20 ()
  else
  (zf_X10_within h x2 0 6).bind fun r4 =>
  if r4 = 0 then
    k20 ()
  else
  (zf_gr h q 10 9).bind fun v6 =>
  v6.bind fun a8 =>
  (zf_ai h a8 0 x1).bind fun v9 =>
  let k65 := fun (_ : Unit) =>
    if 0 ≤ v9 then
      if x2 = 0 then
        (zf_X10_of h q 3 v9).bind fun r13 =>
        some (h, r13)
      else
      if x2 = 1 then
        (zf_X10_of h q 1 v9).bind fun r15 =>
        some (h, r15)
      else
      if x2 = 2 then
        (zf_X10_of h q 4 v9).bind fun r17 =>
        (zf_X10_of h q 3 v9).bind fun r18 =>
        some (h, ((r17 - r18) + 1))
      else
      if x2 = 3 then
        (zf_X10_of h q 1 v9).bind fun r20 =>
        some (h, r20)
      else
      if x2 = 4 then
        (zf_X10_of h q 4 v9).bind fun r22 =>
        some (h, r22)
      else
      if x2 = 5 then
        (zf_X10_of h q 4 v9).bind fun r24 =>
        (zf_X10_of h q 3 v9).bind fun r25 =>
        some (h, ((r24 - r25) + 1))
      else
      if x2 = 6 then
        (zf_X10_of h q 2 v9).bind fun r27 =>
        some (h, r27)
      else
      (zf_X10_of h q 4 v9).bind fun r28 =>
      (zf_X10_of h q 3 v9).bind fun r29 =>
      some (h, ((r28 - r29) + 1))
    else
    (zf_X10_no h q (-3)).bind fun r30 =>
    some (r30.1, r30.2)
  if v9 < 0 then
    k65 ()
  else
  (zf_X10_isRow h q x1).bind fun r31 =>
  let k58 := fun (_ : Unit) =>
    (zf_X10_no h q (-2)).bind fun r33 =>
    some (r33.1, r33.2)
  if r31 = 0 then
    (zf_X10_of h q 0 v9).bind fun r34 =>
    (zf_X10_isUnder h r34 x2).bind fun r35 =>
    if r35 = 0 then
      k58 ()
    else
    k65 ()
  else
  k58 ()
abbrev zr_X10_says : Room := { frames := 2, cells := 0, slots := 0, locals := 42 }
theorem zi_X10_says {h : zc_H} {q : Nat} {x1 : Int32} {x2 : Int32} {res : zc_H × Int32} (hf : zf_X10_says h q x1 x2 = some res) : zf_is h q 10 = true := Decidable.not_not.mp (zo_n hf).1
set_option maxHeartbeats 4000000 in
set_option maxRecDepth 20000 in
theorem zt_X10_says (l : Launch) (g : zc_G) (h : zc_H) (q : Nat) (x1 : Int32) (x2 : Int32) (res : zc_H × Int32) (hf : zf_X10_says h q x1 x2 = some res) : zc_M l g yX10_says cX10_says 4 (some .int) zr_X10_says h [va_rf ((some q)), .int (x1), .int (x2)] res.1 (some (.int (res.2))) := by
  refine zc_M.of (by decide) (by simp [lg_sl, zv_cat, zv_ci, zv_cj]) ?_
  intro p e s m below meth c ls S hK hw hr hlk hnm hl
  replace S : CallFix p m c cX10_says 4 s [va_rf ((some q)), .int (x1), .int (x2)].toArray (zc_ws yX10_says cX10_says 4 (some .int)) RX10 := S
  have hx := S.1
  have hb := S.2.1
  replace hl : lv_has ls 4 [(0, va_rf ((some q))), (1, .int (x1)), (2, .int (x2))] := by simpa [lv_args, zv_cat, zv_ci, zv_cj] using hl
  generalize s.heap = H at hw ⊢
  obtain ⟨locs, hlocs⟩ : ∃ L : List Loc, L = [] := ⟨_, rfl⟩
  rw [← hlocs] at hw ⊢
  unfold zf_X10_says at hf
  obtain ⟨-, hf⟩ := zo_n hf
  refine lv_iload_n hx hb zd_X10_says_0 rfl (lv_at hl 1 rfl) ?_
  refine lv_iconst (v := 0) hx hb zd_X10_says_1 (by decide) ?_
  refine lv_bipush (v := 7) hx hb zd_X10_says_2 (by decide) ?_
  replace hf := zo_b hf; obtain ⟨r1, er1, hf⟩ := hf
  refine zw_callS (n := 3) (As := [.int (x1), .int (0), .int (7)]) (rest := []) S hK hw (zt_X10_within l g h x1 0 7 _ er1) zm_1216 zm_1217 zq_X10_within zm_79 (by decide +kernel) ⟨Nat.le_of_ble_eq_true rfl, Nat.le_of_ble_eq_true rfl⟩ rfl hl.1 rfl (by simp [zv_cat, zv_ci, zv_cj]) zd_X10_says_4 ⟨(Nat.le_refl 0), (Nat.le_refl 0)⟩ (fun H locs hw => ?_)
  replace hw : zc_W g h H locs := hw
  have k20h : ∀ (_ : Unit) (H : Heap) (locs : List Loc) (ls : Array Slot), (
      (zf_X10_no h q (-1)).bind fun r3 =>
      some (r3.1, r3.2)
      ) = some res → zc_W g h H locs → lv_has ls 4 [(0, va_rf ((some q)))] → W p l e zr_X10_says s m [va_rf ((some q)), .int (x1), .int (x2)].toArray below meth c H locs (0 + 0) (0 + 0) (zc_Q g below zr_X10_says (some (.int (res.2))) res.1 [va_rf ((some q)), .int (x1), .int (x2)] s) (F0 m 20 ls []) := by
    intro _ H locs ls hf hw hl
    refine zl_aload_n hx hb zd_X10_says_20 rfl (lv_at hl 0 rfl) ?_
    refine lv_iconst (v := (-1)) hx hb zd_X10_says_21 (by decide) ?_
    replace hf := zo_b hf; obtain ⟨r3, er3, hf⟩ := hf
    refine zw_callV (n := 1) (ci := 10) (q := zc_cl[10]) (As := [.int ((-1))]) (rest := []) S hK hw (zt_X10_no l g h q (-1) _ er3) zm_1219 zm_1221 zm_24 zq_X10_no zm_79 (by decide +kernel) ⟨Nat.le_of_ble_eq_true rfl, Nat.le_of_ble_eq_true rfl⟩ rfl rfl rfl (zi_X10_no er3) hl.1 rfl (by simp [zv_cat, zv_ci, zv_cj]) zd_X10_says_22 ⟨(Nat.le_refl 0), (Nat.le_refl 0)⟩ (fun H locs hw => ?_)
    replace hw : zc_W g r3.1 H locs := hw
    have hres := Option.some.inj hf; subst hres
    exact zw_iret (v := r3.2) (ty := .int) hx hb hr hlk rfl hw zd_X10_says_25 (Nat.le_refl 0) (Nat.le_refl 0)
  refine lv_if_eq (tgt := 20) hx hb zd_X10_says_7 (by decide) (fun c2 => ?_) (fun c2 => ?_)
  · replace hf := zo_t c2 hf
    exact k20h () _ _ _ hf hw (lv_sub hl [0] rfl)
  · replace hf := zo_f c2 hf
    refine lv_iload_n hx hb zd_X10_says_10 rfl (lv_at hl 2 rfl) ?_
    refine lv_iconst (v := 0) hx hb zd_X10_says_11 (by decide) ?_
    refine lv_bipush (v := 6) hx hb zd_X10_says_12 (by decide) ?_
    replace hf := zo_b hf; obtain ⟨r4, er4, hf⟩ := hf
    refine zw_callS (n := 3) (As := [.int (x2), .int (0), .int (6)]) (rest := []) S hK hw (zt_X10_within l g h x2 0 6 _ er4) zm_1216 zm_1217 zq_X10_within zm_79 (by decide +kernel) ⟨Nat.le_of_ble_eq_true rfl, Nat.le_of_ble_eq_true rfl⟩ rfl hl.1 rfl (by simp [zv_cat, zv_ci, zv_cj]) zd_X10_says_14 ⟨(Nat.le_refl 0), (Nat.le_refl 0)⟩ (fun H locs hw => ?_)
    replace hw : zc_W g h H locs := hw
    refine lv_if_ne (tgt := 26) hx hb zd_X10_says_17 (by decide) (fun c5 => ?_) (fun c5 => ?_)
    · replace hf := zo_f c5 hf
      refine zl_aload_n hx hb zd_X10_says_26 rfl (lv_at hl 0 rfl) ?_
      replace hf := zo_b hf; obtain ⟨v6, ev6, hf⟩ := hf
      obtain ⟨u7, u7e, u7v⟩ := zo_b ev6
      obtain rfl := zv_r_e u7v
      refine zw_get S hK hw zk_10 (k := 9) (by decide) rfl zm_1097 (Or.inl rfl) u7e zd_X10_says_27 ?_
      refine lv_iload_n hx hb zd_X10_says_30 rfl (lv_at hl 1 rfl) ?_
      replace hf := zo_b hf; obtain ⟨a8, na8, hf⟩ := hf
      refine W.eq (g2 := F0 m 31 ls [.int (x1), va_rf ((some a8))]) (by rw [na8] <;> rfl) ?_
      replace hf := zo_b hf; obtain ⟨v9, ev9, hf⟩ := hf
      refine zw_iald S hK hw ev9 zd_X10_says_31 ?_
      refine lv_istore_n (i := 3) (lv' := [(3, .int (v9)), (0, va_rf ((some q))), (1, .int (x1)), (2, .int (x2))]) hx hb zd_X10_says_32 rfl hl (by decide) rfl (fun ls hl => ?_)
      refine lv_iload_n hx hb zd_X10_says_33 rfl (lv_at hl 0 rfl) ?_
      have k65h : ∀ (_ : Unit) (H : Heap) (locs : List Loc) (ls : Array Slot), (
          if 0 ≤ v9 then
            if x2 = 0 then
              (zf_X10_of h q 3 v9).bind fun r13 =>
              some (h, r13)
            else
            if x2 = 1 then
              (zf_X10_of h q 1 v9).bind fun r15 =>
              some (h, r15)
            else
            if x2 = 2 then
              (zf_X10_of h q 4 v9).bind fun r17 =>
              (zf_X10_of h q 3 v9).bind fun r18 =>
              some (h, ((r17 - r18) + 1))
            else
            if x2 = 3 then
              (zf_X10_of h q 1 v9).bind fun r20 =>
              some (h, r20)
            else
            if x2 = 4 then
              (zf_X10_of h q 4 v9).bind fun r22 =>
              some (h, r22)
            else
            if x2 = 5 then
              (zf_X10_of h q 4 v9).bind fun r24 =>
              (zf_X10_of h q 3 v9).bind fun r25 =>
              some (h, ((r24 - r25) + 1))
            else
            if x2 = 6 then
              (zf_X10_of h q 2 v9).bind fun r27 =>
              some (h, r27)
            else
            (zf_X10_of h q 4 v9).bind fun r28 =>
            (zf_X10_of h q 3 v9).bind fun r29 =>
            some (h, ((r28 - r29) + 1))
          else
          (zf_X10_no h q (-3)).bind fun r30 =>
          some (r30.1, r30.2)
          ) = some res → zc_W g h H locs → lv_has ls 4 [(0, va_rf ((some q))), (2, .int (x2)), (3, .int (v9))] → W p l e zr_X10_says s m [va_rf ((some q)), .int (x1), .int (x2)].toArray below meth c H locs ((0 + 0) + 0) ((0 + 0) + 0) (zc_Q g below zr_X10_says (some (.int (res.2))) res.1 [va_rf ((some q)), .int (x1), .int (x2)] s) (F0 m 65 ls []) := by
        intro _ H locs ls hf hw hl
        refine lv_iload_n hx hb zd_X10_says_65 rfl (lv_at hl 2 rfl) ?_
        refine lv_if_ge (tgt := 76) hx hb zd_X10_says_66 (by decide) (fun c11 => ?_) (fun c11 => ?_)
        · replace hf := zo_t c11 hf
          refine lv_iload_n hx hb zd_X10_says_76 rfl (lv_at hl 1 rfl) ?_
          by_cases c12 : x2 = 0
          · replace hf := zo_t c12 hf
            refine W.eq (g2 := F0 m 77 ls (.int 0 :: [])) (by rw [c12] <;> rfl) ?_
            refine lv_tableIn (off := 43) (tgt := 120) hx hb zd_X10_says_77 (by decide) (by decide) (by decide) (by decide) ?_
            refine zl_aload_n hx hb zd_X10_says_120 rfl (lv_at hl 0 rfl) ?_
            refine lv_iconst (v := 3) hx hb zd_X10_says_121 (by decide) ?_
            refine lv_iload_n hx hb zd_X10_says_122 rfl (lv_at hl 2 rfl) ?_
            replace hf := zo_b hf; obtain ⟨r13, er13, hf⟩ := hf
            refine zw_callV (n := 2) (ci := 10) (q := zc_cl[10]) (As := [.int (3), .int (v9)]) (rest := []) S hK hw (zt_X10_of l g h q 3 v9 _ er13) zm_1259 zm_1261 zm_28 zq_X10_of zm_79 (by decide +kernel) ⟨Nat.le_of_ble_eq_true rfl, Nat.le_of_ble_eq_true rfl⟩ rfl rfl rfl (zi_X10_of er13) hl.1 rfl (by simp [zv_cat, zv_ci, zv_cj]) zd_X10_says_123 ⟨(Nat.le_refl 0), (Nat.le_refl 0)⟩ (fun H locs hw => ?_)
            replace hw : zc_W g h H locs := hw
            have hres := Option.some.inj hf; subst hres
            exact zw_iret (v := r13) (ty := .int) hx hb hr hlk rfl hw zd_X10_says_126 (Nat.le_refl 0) (Nat.le_refl 0)
          replace hf := zo_f c12 hf
          by_cases c14 : x2 = 1
          · replace hf := zo_t c14 hf
            refine W.eq (g2 := F0 m 77 ls (.int 1 :: [])) (by rw [c14] <;> rfl) ?_
            refine lv_tableIn (off := 50) (tgt := 127) hx hb zd_X10_says_77 (by decide) (by decide) (by decide) (by decide) ?_
            refine zl_aload_n hx hb zd_X10_says_127 rfl (lv_at hl 0 rfl) ?_
            refine lv_iconst (v := 1) hx hb zd_X10_says_128 (by decide) ?_
            refine lv_iload_n hx hb zd_X10_says_129 rfl (lv_at hl 2 rfl) ?_
            replace hf := zo_b hf; obtain ⟨r15, er15, hf⟩ := hf
            refine zw_callV (n := 2) (ci := 10) (q := zc_cl[10]) (As := [.int (1), .int (v9)]) (rest := []) S hK hw (zt_X10_of l g h q 1 v9 _ er15) zm_1259 zm_1261 zm_28 zq_X10_of zm_79 (by decide +kernel) ⟨Nat.le_of_ble_eq_true rfl, Nat.le_of_ble_eq_true rfl⟩ rfl rfl rfl (zi_X10_of er15) hl.1 rfl (by simp [zv_cat, zv_ci, zv_cj]) zd_X10_says_130 ⟨(Nat.le_refl 0), (Nat.le_refl 0)⟩ (fun H locs hw => ?_)
            replace hw : zc_W g h H locs := hw
            have hres := Option.some.inj hf; subst hres
            exact zw_iret (v := r15) (ty := .int) hx hb hr hlk rfl hw zd_X10_says_133 (Nat.le_refl 0) (Nat.le_refl 0)
          replace hf := zo_f c14 hf
          by_cases c16 : x2 = 2
          · replace hf := zo_t c16 hf
            refine W.eq (g2 := F0 m 77 ls (.int 2 :: [])) (by rw [c16] <;> rfl) ?_
            refine lv_tableIn (off := 71) (tgt := 148) hx hb zd_X10_says_77 (by decide) (by decide) (by decide) (by decide) ?_
            refine zl_aload_n hx hb zd_X10_says_148 rfl (lv_at hl 0 rfl) ?_
            refine lv_iconst (v := 4) hx hb zd_X10_says_149 (by decide) ?_
            refine lv_iload_n hx hb zd_X10_says_150 rfl (lv_at hl 2 rfl) ?_
            replace hf := zo_b hf; obtain ⟨r17, er17, hf⟩ := hf
            refine zw_callV (n := 2) (ci := 10) (q := zc_cl[10]) (As := [.int (4), .int (v9)]) (rest := []) S hK hw (zt_X10_of l g h q 4 v9 _ er17) zm_1259 zm_1261 zm_28 zq_X10_of zm_79 (by decide +kernel) ⟨Nat.le_of_ble_eq_true rfl, Nat.le_of_ble_eq_true rfl⟩ rfl rfl rfl (zi_X10_of er17) hl.1 rfl (by simp [zv_cat, zv_ci, zv_cj]) zd_X10_says_151 ⟨(Nat.le_refl 0), (Nat.le_refl 0)⟩ (fun H locs hw => ?_)
            replace hw : zc_W g h H locs := hw
            refine zl_aload_n hx hb zd_X10_says_154 rfl (lv_at hl 0 rfl) ?_
            refine lv_iconst (v := 3) hx hb zd_X10_says_155 (by decide) ?_
            refine lv_iload_n hx hb zd_X10_says_156 rfl (lv_at hl 2 rfl) ?_
            replace hf := zo_b hf; obtain ⟨r18, er18, hf⟩ := hf
            refine zw_callV (n := 2) (ci := 10) (q := zc_cl[10]) (As := [.int (3), .int (v9)]) (rest := [.int (r17)]) S hK hw (zt_X10_of l g h q 3 v9 _ er18) zm_1259 zm_1261 zm_28 zq_X10_of zm_79 (by decide +kernel) ⟨Nat.le_of_ble_eq_true rfl, Nat.le_of_ble_eq_true rfl⟩ rfl rfl rfl (zi_X10_of er18) hl.1 rfl (by simp [zv_cat, zv_ci, zv_cj]) zd_X10_says_157 ⟨(Nat.le_refl 0), (Nat.le_refl 0)⟩ (fun H locs hw => ?_)
            replace hw : zc_W g h H locs := hw
            refine lv_isub hx hb zd_X10_says_160 ?_
            refine lv_iconst (v := 1) hx hb zd_X10_says_161 (by decide) ?_
            refine lv_iadd hx hb zd_X10_says_162 ?_
            have hres := Option.some.inj hf; subst hres
            exact zw_iret (v := ((r17 - r18) + 1)) (ty := .int) hx hb hr hlk rfl hw zd_X10_says_163 (Nat.le_refl 0) (Nat.le_refl 0)
          replace hf := zo_f c16 hf
          by_cases c19 : x2 = 3
          · replace hf := zo_t c19 hf
            refine W.eq (g2 := F0 m 77 ls (.int 3 :: [])) (by rw [c19] <;> rfl) ?_
            refine lv_tableIn (off := 50) (tgt := 127) hx hb zd_X10_says_77 (by decide) (by decide) (by decide) (by decide) ?_
            refine zl_aload_n hx hb zd_X10_says_127 rfl (lv_at hl 0 rfl) ?_
            refine lv_iconst (v := 1) hx hb zd_X10_says_128 (by decide) ?_
            refine lv_iload_n hx hb zd_X10_says_129 rfl (lv_at hl 2 rfl) ?_
            replace hf := zo_b hf; obtain ⟨r20, er20, hf⟩ := hf
            refine zw_callV (n := 2) (ci := 10) (q := zc_cl[10]) (As := [.int (1), .int (v9)]) (rest := []) S hK hw (zt_X10_of l g h q 1 v9 _ er20) zm_1259 zm_1261 zm_28 zq_X10_of zm_79 (by decide +kernel) ⟨Nat.le_of_ble_eq_true rfl, Nat.le_of_ble_eq_true rfl⟩ rfl rfl rfl (zi_X10_of er20) hl.1 rfl (by simp [zv_cat, zv_ci, zv_cj]) zd_X10_says_130 ⟨(Nat.le_refl 0), (Nat.le_refl 0)⟩ (fun H locs hw => ?_)
            replace hw : zc_W g h H locs := hw
            have hres := Option.some.inj hf; subst hres
            exact zw_iret (v := r20) (ty := .int) hx hb hr hlk rfl hw zd_X10_says_133 (Nat.le_refl 0) (Nat.le_refl 0)
          replace hf := zo_f c19 hf
          by_cases c21 : x2 = 4
          · replace hf := zo_t c21 hf
            refine W.eq (g2 := F0 m 77 ls (.int 4 :: [])) (by rw [c21] <;> rfl) ?_
            refine lv_tableIn (off := 57) (tgt := 134) hx hb zd_X10_says_77 (by decide) (by decide) (by decide) (by decide) ?_
            refine zl_aload_n hx hb zd_X10_says_134 rfl (lv_at hl 0 rfl) ?_
            refine lv_iconst (v := 4) hx hb zd_X10_says_135 (by decide) ?_
            refine lv_iload_n hx hb zd_X10_says_136 rfl (lv_at hl 2 rfl) ?_
            replace hf := zo_b hf; obtain ⟨r22, er22, hf⟩ := hf
            refine zw_callV (n := 2) (ci := 10) (q := zc_cl[10]) (As := [.int (4), .int (v9)]) (rest := []) S hK hw (zt_X10_of l g h q 4 v9 _ er22) zm_1259 zm_1261 zm_28 zq_X10_of zm_79 (by decide +kernel) ⟨Nat.le_of_ble_eq_true rfl, Nat.le_of_ble_eq_true rfl⟩ rfl rfl rfl (zi_X10_of er22) hl.1 rfl (by simp [zv_cat, zv_ci, zv_cj]) zd_X10_says_137 ⟨(Nat.le_refl 0), (Nat.le_refl 0)⟩ (fun H locs hw => ?_)
            replace hw : zc_W g h H locs := hw
            have hres := Option.some.inj hf; subst hres
            exact zw_iret (v := r22) (ty := .int) hx hb hr hlk rfl hw zd_X10_says_140 (Nat.le_refl 0) (Nat.le_refl 0)
          replace hf := zo_f c21 hf
          by_cases c23 : x2 = 5
          · replace hf := zo_t c23 hf
            refine W.eq (g2 := F0 m 77 ls (.int 5 :: [])) (by rw [c23] <;> rfl) ?_
            refine lv_tableIn (off := 71) (tgt := 148) hx hb zd_X10_says_77 (by decide) (by decide) (by decide) (by decide) ?_
            refine zl_aload_n hx hb zd_X10_says_148 rfl (lv_at hl 0 rfl) ?_
            refine lv_iconst (v := 4) hx hb zd_X10_says_149 (by decide) ?_
            refine lv_iload_n hx hb zd_X10_says_150 rfl (lv_at hl 2 rfl) ?_
            replace hf := zo_b hf; obtain ⟨r24, er24, hf⟩ := hf
            refine zw_callV (n := 2) (ci := 10) (q := zc_cl[10]) (As := [.int (4), .int (v9)]) (rest := []) S hK hw (zt_X10_of l g h q 4 v9 _ er24) zm_1259 zm_1261 zm_28 zq_X10_of zm_79 (by decide +kernel) ⟨Nat.le_of_ble_eq_true rfl, Nat.le_of_ble_eq_true rfl⟩ rfl rfl rfl (zi_X10_of er24) hl.1 rfl (by simp [zv_cat, zv_ci, zv_cj]) zd_X10_says_151 ⟨(Nat.le_refl 0), (Nat.le_refl 0)⟩ (fun H locs hw => ?_)
            replace hw : zc_W g h H locs := hw
            refine zl_aload_n hx hb zd_X10_says_154 rfl (lv_at hl 0 rfl) ?_
            refine lv_iconst (v := 3) hx hb zd_X10_says_155 (by decide) ?_
            refine lv_iload_n hx hb zd_X10_says_156 rfl (lv_at hl 2 rfl) ?_
            replace hf := zo_b hf; obtain ⟨r25, er25, hf⟩ := hf
            refine zw_callV (n := 2) (ci := 10) (q := zc_cl[10]) (As := [.int (3), .int (v9)]) (rest := [.int (r24)]) S hK hw (zt_X10_of l g h q 3 v9 _ er25) zm_1259 zm_1261 zm_28 zq_X10_of zm_79 (by decide +kernel) ⟨Nat.le_of_ble_eq_true rfl, Nat.le_of_ble_eq_true rfl⟩ rfl rfl rfl (zi_X10_of er25) hl.1 rfl (by simp [zv_cat, zv_ci, zv_cj]) zd_X10_says_157 ⟨(Nat.le_refl 0), (Nat.le_refl 0)⟩ (fun H locs hw => ?_)
            replace hw : zc_W g h H locs := hw
            refine lv_isub hx hb zd_X10_says_160 ?_
            refine lv_iconst (v := 1) hx hb zd_X10_says_161 (by decide) ?_
            refine lv_iadd hx hb zd_X10_says_162 ?_
            have hres := Option.some.inj hf; subst hres
            exact zw_iret (v := ((r24 - r25) + 1)) (ty := .int) hx hb hr hlk rfl hw zd_X10_says_163 (Nat.le_refl 0) (Nat.le_refl 0)
          replace hf := zo_f c23 hf
          by_cases c26 : x2 = 6
          · replace hf := zo_t c26 hf
            refine W.eq (g2 := F0 m 77 ls (.int 6 :: [])) (by rw [c26] <;> rfl) ?_
            refine lv_tableIn (off := 64) (tgt := 141) hx hb zd_X10_says_77 (by decide) (by decide) (by decide) (by decide) ?_
            refine zl_aload_n hx hb zd_X10_says_141 rfl (lv_at hl 0 rfl) ?_
            refine lv_iconst (v := 2) hx hb zd_X10_says_142 (by decide) ?_
            refine lv_iload_n hx hb zd_X10_says_143 rfl (lv_at hl 2 rfl) ?_
            replace hf := zo_b hf; obtain ⟨r27, er27, hf⟩ := hf
            refine zw_callV (n := 2) (ci := 10) (q := zc_cl[10]) (As := [.int (2), .int (v9)]) (rest := []) S hK hw (zt_X10_of l g h q 2 v9 _ er27) zm_1259 zm_1261 zm_28 zq_X10_of zm_79 (by decide +kernel) ⟨Nat.le_of_ble_eq_true rfl, Nat.le_of_ble_eq_true rfl⟩ rfl rfl rfl (zi_X10_of er27) hl.1 rfl (by simp [zv_cat, zv_ci, zv_cj]) zd_X10_says_144 ⟨(Nat.le_refl 0), (Nat.le_refl 0)⟩ (fun H locs hw => ?_)
            replace hw : zc_W g h H locs := hw
            have hres := Option.some.inj hf; subst hres
            exact zw_iret (v := r27) (ty := .int) hx hb hr hlk rfl hw zd_X10_says_147 (Nat.le_refl 0) (Nat.le_refl 0)
          replace hf := zo_f c26 hf
          have zc12 : (x2 : Int32).toInt ≠ 0 := fun h => c12 (Int32.toInt_inj.mp (h.trans (by decide)))
          have zc14 : (x2 : Int32).toInt ≠ 1 := fun h => c14 (Int32.toInt_inj.mp (h.trans (by decide)))
          have zc16 : (x2 : Int32).toInt ≠ 2 := fun h => c16 (Int32.toInt_inj.mp (h.trans (by decide)))
          have zc19 : (x2 : Int32).toInt ≠ 3 := fun h => c19 (Int32.toInt_inj.mp (h.trans (by decide)))
          have zc21 : (x2 : Int32).toInt ≠ 4 := fun h => c21 (Int32.toInt_inj.mp (h.trans (by decide)))
          have zc23 : (x2 : Int32).toInt ≠ 5 := fun h => c23 (Int32.toInt_inj.mp (h.trans (by decide)))
          have zc26 : (x2 : Int32).toInt ≠ 6 := fun h => c26 (Int32.toInt_inj.mp (h.trans (by decide)))
          refine lv_tableOut (tgt := 148) hx hb zd_X10_says_77 (by omega) (by decide) ?_
          refine zl_aload_n hx hb zd_X10_says_148 rfl (lv_at hl 0 rfl) ?_
          refine lv_iconst (v := 4) hx hb zd_X10_says_149 (by decide) ?_
          refine lv_iload_n hx hb zd_X10_says_150 rfl (lv_at hl 2 rfl) ?_
          replace hf := zo_b hf; obtain ⟨r28, er28, hf⟩ := hf
          refine zw_callV (n := 2) (ci := 10) (q := zc_cl[10]) (As := [.int (4), .int (v9)]) (rest := []) S hK hw (zt_X10_of l g h q 4 v9 _ er28) zm_1259 zm_1261 zm_28 zq_X10_of zm_79 (by decide +kernel) ⟨Nat.le_of_ble_eq_true rfl, Nat.le_of_ble_eq_true rfl⟩ rfl rfl rfl (zi_X10_of er28) hl.1 rfl (by simp [zv_cat, zv_ci, zv_cj]) zd_X10_says_151 ⟨(Nat.le_refl 0), (Nat.le_refl 0)⟩ (fun H locs hw => ?_)
          replace hw : zc_W g h H locs := hw
          refine zl_aload_n hx hb zd_X10_says_154 rfl (lv_at hl 0 rfl) ?_
          refine lv_iconst (v := 3) hx hb zd_X10_says_155 (by decide) ?_
          refine lv_iload_n hx hb zd_X10_says_156 rfl (lv_at hl 2 rfl) ?_
          replace hf := zo_b hf; obtain ⟨r29, er29, hf⟩ := hf
          refine zw_callV (n := 2) (ci := 10) (q := zc_cl[10]) (As := [.int (3), .int (v9)]) (rest := [.int (r28)]) S hK hw (zt_X10_of l g h q 3 v9 _ er29) zm_1259 zm_1261 zm_28 zq_X10_of zm_79 (by decide +kernel) ⟨Nat.le_of_ble_eq_true rfl, Nat.le_of_ble_eq_true rfl⟩ rfl rfl rfl (zi_X10_of er29) hl.1 rfl (by simp [zv_cat, zv_ci, zv_cj]) zd_X10_says_157 ⟨(Nat.le_refl 0), (Nat.le_refl 0)⟩ (fun H locs hw => ?_)
          replace hw : zc_W g h H locs := hw
          refine lv_isub hx hb zd_X10_says_160 ?_
          refine lv_iconst (v := 1) hx hb zd_X10_says_161 (by decide) ?_
          refine lv_iadd hx hb zd_X10_says_162 ?_
          have hres := Option.some.inj hf; subst hres
          exact zw_iret (v := ((r28 - r29) + 1)) (ty := .int) hx hb hr hlk rfl hw zd_X10_says_163 (Nat.le_refl 0) (Nat.le_refl 0)
        · replace hf := zo_f c11 hf
          refine zl_aload_n hx hb zd_X10_says_69 rfl (lv_at hl 0 rfl) ?_
          refine lv_bipush (v := (-3)) hx hb zd_X10_says_70 (by decide) ?_
          replace hf := zo_b hf; obtain ⟨r30, er30, hf⟩ := hf
          refine zw_callV (n := 1) (ci := 10) (q := zc_cl[10]) (As := [.int ((-3))]) (rest := []) S hK hw (zt_X10_no l g h q (-3) _ er30) zm_1219 zm_1221 zm_24 zq_X10_no zm_79 (by decide +kernel) ⟨Nat.le_of_ble_eq_true rfl, Nat.le_of_ble_eq_true rfl⟩ rfl rfl rfl (zi_X10_no er30) hl.1 rfl (by simp [zv_cat, zv_ci, zv_cj]) zd_X10_says_72 ⟨(Nat.le_refl 0), (Nat.le_refl 0)⟩ (fun H locs hw => ?_)
          replace hw : zc_W g r30.1 H locs := hw
          have hres := Option.some.inj hf; subst hres
          exact zw_iret (v := r30.2) (ty := .int) hx hb hr hlk rfl hw zd_X10_says_75 (Nat.le_refl 0) (Nat.le_refl 0)
      refine lv_if_lt (tgt := 65) hx hb zd_X10_says_34 (by decide) (fun c10 => ?_) (fun c10 => ?_)
      · replace hf := zo_t c10 hf
        exact k65h () _ _ _ hf hw (lv_sub hl [1, 3, 0] rfl)
      · replace hf := zo_f c10 hf
        refine zl_aload_n hx hb zd_X10_says_37 rfl (lv_at hl 1 rfl) ?_
        refine lv_iload_n hx hb zd_X10_says_38 rfl (lv_at hl 2 rfl) ?_
        replace hf := zo_b hf; obtain ⟨r31, er31, hf⟩ := hf
        refine zw_callV (n := 1) (ci := 10) (q := zc_cl[10]) (As := [.int (x1)]) (rest := []) S hK hw (zt_X10_isRow l g h q x1 _ er31) zm_1231 zm_1233 zm_26 zq_X10_isRow zm_79 (by decide +kernel) ⟨Nat.le_of_ble_eq_true rfl, Nat.le_of_ble_eq_true rfl⟩ rfl rfl rfl (zi_X10_isRow er31) hl.1 rfl (by simp [zv_cat, zv_ci, zv_cj]) zd_X10_says_39 ⟨(Nat.le_refl 0), (Nat.le_refl 0)⟩ (fun H locs hw => ?_)
        replace hw : zc_W g h H locs := hw
        have k58h : ∀ (_ : Unit) (H : Heap) (locs : List Loc) (ls : Array Slot), (
            (zf_X10_no h q (-2)).bind fun r33 =>
            some (r33.1, r33.2)
            ) = some res → zc_W g h H locs → lv_has ls 4 [(0, va_rf ((some q)))] → W p l e zr_X10_says s m [va_rf ((some q)), .int (x1), .int (x2)].toArray below meth c H locs (((0 + 0) + 0) + 0) (((0 + 0) + 0) + 0) (zc_Q g below zr_X10_says (some (.int (res.2))) res.1 [va_rf ((some q)), .int (x1), .int (x2)] s) (F0 m 58 ls []) := by
          intro _ H locs ls hf hw hl
          refine zl_aload_n hx hb zd_X10_says_58 rfl (lv_at hl 0 rfl) ?_
          refine lv_bipush (v := (-2)) hx hb zd_X10_says_59 (by decide) ?_
          replace hf := zo_b hf; obtain ⟨r33, er33, hf⟩ := hf
          refine zw_callV (n := 1) (ci := 10) (q := zc_cl[10]) (As := [.int ((-2))]) (rest := []) S hK hw (zt_X10_no l g h q (-2) _ er33) zm_1219 zm_1221 zm_24 zq_X10_no zm_79 (by decide +kernel) ⟨Nat.le_of_ble_eq_true rfl, Nat.le_of_ble_eq_true rfl⟩ rfl rfl rfl (zi_X10_no er33) hl.1 rfl (by simp [zv_cat, zv_ci, zv_cj]) zd_X10_says_61 ⟨(Nat.le_refl 0), (Nat.le_refl 0)⟩ (fun H locs hw => ?_)
          replace hw : zc_W g r33.1 H locs := hw
          have hres := Option.some.inj hf; subst hres
          exact zw_iret (v := r33.2) (ty := .int) hx hb hr hlk rfl hw zd_X10_says_64 (Nat.le_refl 0) (Nat.le_refl 0)
        refine lv_if_ne (tgt := 58) hx hb zd_X10_says_42 (by decide) (fun c32 => ?_) (fun c32 => ?_)
        · replace hf := zo_f c32 hf
          exact k58h () _ _ _ hf hw (lv_sub hl [1] rfl)
        · replace hf := zo_t c32 hf
          refine zl_aload_n hx hb zd_X10_says_45 rfl (lv_at hl 1 rfl) ?_
          refine lv_iconst (v := 0) hx hb zd_X10_says_46 (by decide) ?_
          refine lv_iload_n hx hb zd_X10_says_47 rfl (lv_at hl 0 rfl) ?_
          replace hf := zo_b hf; obtain ⟨r34, er34, hf⟩ := hf
          refine zw_callV (n := 2) (ci := 10) (q := zc_cl[10]) (As := [.int (0), .int (v9)]) (rest := []) S hK hw (zt_X10_of l g h q 0 v9 _ er34) zm_1259 zm_1261 zm_28 zq_X10_of zm_79 (by decide +kernel) ⟨Nat.le_of_ble_eq_true rfl, Nat.le_of_ble_eq_true rfl⟩ rfl rfl rfl (zi_X10_of er34) hl.1 rfl (by simp [zv_cat, zv_ci, zv_cj]) zd_X10_says_48 ⟨(Nat.le_refl 0), (Nat.le_refl 0)⟩ (fun H locs hw => ?_)
          replace hw : zc_W g h H locs := hw
          refine lv_iload_n hx hb zd_X10_says_51 rfl (lv_at hl 3 rfl) ?_
          replace hf := zo_b hf; obtain ⟨r35, er35, hf⟩ := hf
          refine zw_callS (n := 2) (As := [.int (r34), .int (x2)]) (rest := []) S hK hw (zt_X10_isUnder l g h r34 x2 _ er35) zm_1263 zm_1264 zq_X10_isUnder zm_79 (by decide +kernel) ⟨Nat.le_of_ble_eq_true rfl, Nat.le_of_ble_eq_true rfl⟩ rfl hl.1 rfl (by simp [zv_cat, zv_ci, zv_cj]) zd_X10_says_52 ⟨(Nat.le_refl 0), (Nat.le_refl 0)⟩ (fun H locs hw => ?_)
          replace hw : zc_W g h H locs := hw
          refine lv_if_ne (tgt := 65) hx hb zd_X10_says_55 (by decide) (fun c36 => ?_) (fun c36 => ?_)
          · replace hf := zo_f c36 hf
            exact k65h () _ _ _ hf hw (lv_sub hl [1, 3, 0] rfl)
          · replace hf := zo_t c36 hf
            exact k58h () _ _ _ hf hw (lv_sub hl [1] rfl)
    · replace hf := zo_t c5 hf
      exact k20h () _ _ _ hf hw (lv_sub hl [0] rfl)
def zf_X10_read (h : zc_H) (q : Nat) (x1 : Int32) (x2 : Int32) : Option (Int32) :=
  if ¬ zf_is h q 10 = true then none else
  (zf_gr h q 10 11).bind fun v1 =>
  v1.bind fun a3 =>
  (zf_aj h a3 ((160 * x1) + x2)).bind fun v4 =>
  some ((v4 : Int64).toInt32)
abbrev zr_X10_read : Room := { frames := 0, cells := 0, slots := 0, locals := 0 }
theorem zi_X10_read {h : zc_H} {q : Nat} {x1 : Int32} {x2 : Int32} {res : Int32} (hf : zf_X10_read h q x1 x2 = some res) : zf_is h q 10 = true := Decidable.not_not.mp (zo_n hf).1
set_option maxHeartbeats 4000000 in
set_option maxRecDepth 20000 in
theorem zt_X10_read (l : Launch) (g : zc_G) (h : zc_H) (q : Nat) (x1 : Int32) (x2 : Int32) (res : Int32) (hf : zf_X10_read h q x1 x2 = some res) : zc_M l g yX10_read cX10_read 3 (some .int) zr_X10_read h [va_rf ((some q)), .int (x1), .int (x2)] h (some (.int (res))) := by
  refine zc_M.of (by decide) (by simp [lg_sl, zv_cat, zv_ci, zv_cj]) ?_
  intro p e s m below meth c ls S hK hw hr hlk hnm hl
  replace S : CallFix p m c cX10_read 3 s [va_rf ((some q)), .int (x1), .int (x2)].toArray (zc_ws yX10_read cX10_read 3 (some .int)) RX10 := S
  have hx := S.1
  have hb := S.2.1
  replace hl : lv_has ls 3 [(0, va_rf ((some q))), (1, .int (x1)), (2, .int (x2))] := by simpa [lv_args, zv_cat, zv_ci, zv_cj] using hl
  generalize s.heap = H at hw ⊢
  obtain ⟨locs, hlocs⟩ : ∃ L : List Loc, L = [] := ⟨_, rfl⟩
  rw [← hlocs] at hw ⊢
  unfold zf_X10_read at hf
  obtain ⟨-, hf⟩ := zo_n hf
  refine zl_aload_n hx hb zd_X10_read_0 rfl (lv_at hl 0 rfl) ?_
  replace hf := zo_b hf; obtain ⟨v1, ev1, hf⟩ := hf
  obtain ⟨u2, u2e, u2v⟩ := zo_b ev1
  obtain rfl := zv_r_e u2v
  refine zw_get S hK hw zk_10 (k := 11) (by decide) rfl zm_1099 (Or.inl rfl) u2e zd_X10_read_1 ?_
  refine lv_sipush (v := 160) hx hb zd_X10_read_4 (by decide) ?_
  refine lv_iload_n hx hb zd_X10_read_7 rfl (lv_at hl 1 rfl) ?_
  refine lv_imul hx hb zd_X10_read_8 ?_
  refine lv_iload_n hx hb zd_X10_read_9 rfl (lv_at hl 2 rfl) ?_
  refine lv_iadd hx hb zd_X10_read_10 ?_
  replace hf := zo_b hf; obtain ⟨a3, na3, hf⟩ := hf
  refine W.eq (g2 := F0 m 11 ls [.int (((160 * x1) + x2)), va_rf ((some a3))]) (by rw [na3] <;> rfl) ?_
  replace hf := zo_b hf; obtain ⟨v4, ev4, hf⟩ := hf
  refine zw_lald S hK hw ev4 zd_X10_read_11 ?_
  refine lv_l2i (v := ((v4 : Int64).toInt32)) hx hb zd_X10_read_12 rfl ?_
  have hres := Option.some.inj hf; subst hres
  exact zw_iret (v := ((v4 : Int64).toInt32)) (ty := .int) hx hb hr hlk rfl hw zd_X10_read_13 (Nat.le_refl 0) (Nat.le_refl 0)
def zf_X10_reads_L18 (q : Nat) (y1 : Int32) (y2 : Int32) : Nat → zc_H → Int32 → Int32 → Int64 → Int32 → Option (zc_H × ((Int32 × Int32 × Int64) ⊕ (Int32)))
  | 0, _, _, _, _, _ => none
  | n + 1, h, y3, y4, y5, y7 =>
    if y2 ≤ y7 then
      some (h, (.inl (y3, y4, y5)))
    else
    (zf_X10_read h q y1 y7).bind fun r6 =>
    let k56 := fun (s56_0 : Int32) =>
      let k85 := fun (_ : Unit) =>
        let k135 := fun (h135j : zc_H) (y135_3 : Int32) (y135_4 : Int32) (y135_5 : Int64) =>
          zf_X10_reads_L18 q y1 y2 n h135j y135_3 y135_4 y135_5 (y7 + 1)
        if s56_0 = 0 then
          k135 h y3 (y4 + 1) (y5 ||| ((((r6 : Int32).toInt64) <<< (((8 * y4) : Int32).toInt64 &&& 63))))
        else
        (zf_gr h q 10 3).bind fun v10 =>
        (zf_gi h q 10 0).bind fun v12 =>
        v10.bind fun a14 =>
        (zf_sj h a14 ((24 * v12) + y3) y5).bind fun h15 =>
        k135 h15 (y3 + 1) 0 0
      if s56_0 = 0 then
        (zf_X10_within h r6 97 122).bind fun r16 =>
        if r16 = 0 then
          some (h, (.inr y7))
        else
        if y4 = 8 then
          some (h, (.inr y7))
        else
        k85 ()
      else
      k85 ()
    let k55 := fun (_ : Unit) =>
      k56 0
    if r6 = 47 then
      if y4 ≤ 0 then
        k55 ()
      else
      if 23 ≤ y3 then
        k55 ()
      else
      k56 1
    else
    k55 ()
def zf_X10_reads (h : zc_H) (q : Nat) (x1 : Int32) : Option (zc_H × Int32) :=
  if ¬ zf_is h q 10 = true then none else
  (zf_gr h q 10 10).bind fun v1 =>
  v1.bind fun a3 =>
  (zf_ai h a3 0 x1).bind fun v4 =>
  (zf_X10_reads_L18 q x1 v4 2000 h 0 0 0 0).bind fun w21 =>
  Sum.elim (fun t22 =>
    let k152 := fun (_ : Unit) =>
      let k172 := fun (h172j : zc_H) =>
        (zf_gr h172j q 10 2).bind fun v26 =>
        (zf_gi h172j q 10 0).bind fun v28 =>
        let k191 := fun (s191_0 : Int32) (s191_1 : Int32) (s191_2 : Option Nat) =>
          s191_2.bind fun a31 =>
          (zf_si h172j a31 0 s191_1 s191_0).bind fun h32 =>
          some (h32, (-1))
        if v4 ≤ 0 then
          k191 0 v28 v26
        else
        k191 (t22.1 + 1) v28 v26
      if v4 ≤ 0 then
        k172 w21.1
      else
      (zf_gr w21.1 q 10 3).bind fun v33 =>
      (zf_gi w21.1 q 10 0).bind fun v35 =>
      v33.bind fun a37 =>
      (zf_sj w21.1 a37 ((24 * v35) + t22.1) t22.2.2).bind fun h38 =>
      k172 h38
    if v4 ≤ 0 then
      k152 ()
    else
    if t22.2.1 = 0 then
      some (w21.1, v4)
    else
    k152 ()
    ) (fun t23 =>
    some (w21.1, t23)
    ) w21.2
abbrev zr_X10_reads : Room := { frames := 1, cells := 0, slots := 0, locals := 22 }
theorem zi_X10_reads {h : zc_H} {q : Nat} {x1 : Int32} {res : zc_H × Int32} (hf : zf_X10_reads h q x1 = some res) : zf_is h q 10 = true := Decidable.not_not.mp (zo_n hf).1
set_option maxHeartbeats 4000000 in
set_option maxRecDepth 20000 in
theorem zt_X10_reads (l : Launch) (g : zc_G) (h : zc_H) (q : Nat) (x1 : Int32) (res : zc_H × Int32) (hf : zf_X10_reads h q x1 = some res) : zc_M l g yX10_reads cX10_reads 10 (some .int) zr_X10_reads h [va_rf ((some q)), .int (x1)] res.1 (some (.int (res.2))) := by
  refine zc_M.of (by decide) (by simp [lg_sl, zv_cat, zv_ci, zv_cj]) ?_
  intro p e s m below meth c ls S hK hw hr hlk hnm hl
  replace S : CallFix p m c cX10_reads 10 s [va_rf ((some q)), .int (x1)].toArray (zc_ws yX10_reads cX10_reads 10 (some .int)) RX10 := S
  have hx := S.1
  have hb := S.2.1
  replace hl : lv_has ls 10 [(0, va_rf ((some q))), (1, .int (x1))] := by simpa [lv_args, zv_cat, zv_ci, zv_cj] using hl
  generalize s.heap = H at hw ⊢
  obtain ⟨locs, hlocs⟩ : ∃ L : List Loc, L = [] := ⟨_, rfl⟩
  rw [← hlocs] at hw ⊢
  have L18 : ∀ (y1 : Int32) (y2 : Int32) (n : Nat) (h : zc_H) (y3 : Int32) (y4 : Int32) (y5 : Int64) (y7 : Int32) (w : zc_H × ((Int32 × Int32 × Int64) ⊕ (Int32))) (H : Heap) (locs : List Loc) (ls : Array Slot), zf_X10_reads_L18 q y1 y2 n h y3 y4 y5 y7 = some w → zc_W g h H locs → lv_has ls 10 [(0, va_rf ((some q))), (1, .int (y1)), (2, .int (y2)), (3, .int (y3)), (4, .int (y4)), (5, .long (y5)), (7, .int (y7))] → (∀ (t : Int32 × Int32 × Int64) (H : Heap) (locs : List Loc) (ls : Array Slot), w.2 = (.inl t) → zc_W g w.1 H locs → lv_has ls 10 [(0, va_rf ((some q))), (2, .int (y2)), (3, .int (t.1)), (4, .int (t.2.1)), (5, .long (t.2.2))] → W p l e zr_X10_reads s m [va_rf ((some q)), .int (x1)].toArray below meth c H locs 0 0 (zc_Q g below zr_X10_reads (some (.int (res.2))) res.1 [va_rf ((some q)), .int (x1)] s) (F0 m 141 ls [])) → (∀ (t : Int32) (H : Heap) (locs : List Loc) (ls : Array Slot), w.2 = (.inr t) → zc_W g w.1 H locs → lv_has ls 10 [(7, .int (t))] → W p l e zr_X10_reads s m [va_rf ((some q)), .int (x1)].toArray below meth c H locs 0 0 (zc_Q g below zr_X10_reads (some (.int (res.2))) res.1 [va_rf ((some q)), .int (x1)] s) (F0 m 82 ls [])) → W p l e zr_X10_reads s m [va_rf ((some q)), .int (x1)].toArray below meth c H locs 0 0 (zc_Q g below zr_X10_reads (some (.int (res.2))) res.1 [va_rf ((some q)), .int (x1)] s) (F0 m 18 ls []) := by
    intro y1 y2 n
    induction n with
    | zero =>
      intro h y3 y4 y5 y7 w H locs ls hf
      cases hf
    | succ n ih =>
      intro h y3 y4 y5 y7 w H locs ls hf hw hl  kk1 kk2
      unfold zf_X10_reads_L18 at hf
      refine lv_iload hx hb zd_X10_reads_18 (lv_at hl 6 rfl) ?_
      refine lv_iload_n hx hb zd_X10_reads_20 rfl (lv_at hl 2 rfl) ?_
      refine lv_icmp_ge (tgt := 141) hx hb zd_X10_reads_21 (by decide) (fun c5 => ?_) (fun c5 => ?_)
      · replace hf := zo_t c5 hf
        have hres := Option.some.inj hf; subst hres
        exact kk1 _ _ _ _ rfl hw (lv_sub hl [0, 2, 3, 4, 5] rfl)
      · replace hf := zo_f c5 hf
        refine zl_aload_n hx hb zd_X10_reads_24 rfl (lv_at hl 0 rfl) ?_
        refine lv_iload_n hx hb zd_X10_reads_25 rfl (lv_at hl 1 rfl) ?_
        refine lv_iload hx hb zd_X10_reads_26 (lv_at hl 6 rfl) ?_
        replace hf := zo_b hf; obtain ⟨r6, er6, hf⟩ := hf
        refine zw_callV (n := 2) (ci := 10) (q := zc_cl[10]) (As := [.int (y1), .int (y7)]) (rest := []) S hK hw (zt_X10_read l g h q y1 y7 _ er6) zm_1281 zm_1283 zm_31 zq_X10_read zm_79 (by decide +kernel) ⟨Nat.le_of_ble_eq_true rfl, Nat.le_of_ble_eq_true rfl⟩ rfl rfl rfl (zi_X10_read er6) hl.1 rfl (by simp [zv_cat, zv_ci, zv_cj]) zd_X10_reads_28 ⟨(Nat.le_refl 0), (Nat.le_refl 0)⟩ (fun H locs hw => ?_)
        replace hw : zc_W g h H locs := hw
        refine lv_istore (i := 8) (lv' := [(8, .int (r6)), (0, va_rf ((some q))), (1, .int (y1)), (2, .int (y2)), (3, .int (y3)), (4, .int (y4)), (5, .long (y5)), (7, .int (y7))]) hx hb zd_X10_reads_31 hl (by decide) rfl (fun ls hl => ?_)
        refine lv_iload hx hb zd_X10_reads_33 (lv_at hl 0 rfl) ?_
        refine lv_bipush (v := 47) hx hb zd_X10_reads_35 (by decide) ?_
        have k56h : ∀ (s56_0 : Int32) (H : Heap) (locs : List Loc) (ls : Array Slot), (
            let k85 := fun (_ : Unit) =>
              let k135 := fun (h135j : zc_H) (y135_3 : Int32) (y135_4 : Int32) (y135_5 : Int64) =>
                zf_X10_reads_L18 q y1 y2 n h135j y135_3 y135_4 y135_5 (y7 + 1)
              if s56_0 = 0 then
                k135 h y3 (y4 + 1) (y5 ||| ((((r6 : Int32).toInt64) <<< (((8 * y4) : Int32).toInt64 &&& 63))))
              else
              (zf_gr h q 10 3).bind fun v10 =>
              (zf_gi h q 10 0).bind fun v12 =>
              v10.bind fun a14 =>
              (zf_sj h a14 ((24 * v12) + y3) y5).bind fun h15 =>
              k135 h15 (y3 + 1) 0 0
            if s56_0 = 0 then
              (zf_X10_within h r6 97 122).bind fun r16 =>
              if r16 = 0 then
                some (h, (.inr y7))
              else
              if y4 = 8 then
                some (h, (.inr y7))
              else
              k85 ()
            else
            k85 ()
            ) = some w → zc_W g h H locs → lv_has ls 10 [(0, va_rf ((some q))), (1, .int (y1)), (2, .int (y2)), (3, .int (y3)), (4, .int (y4)), (5, .long (y5)), (7, .int (y7)), (8, .int (r6))] → W p l e zr_X10_reads s m [va_rf ((some q)), .int (x1)].toArray below meth c H locs (0 + 0) (0 + 0) (zc_Q g below zr_X10_reads (some (.int (res.2))) res.1 [va_rf ((some q)), .int (x1)] s) (F0 m 56 ls [.int (s56_0)]) := by
          intro s56_0 H locs ls hf hw hl
          refine lv_istore (i := 9) (lv' := [(9, .int (s56_0)), (0, va_rf ((some q))), (1, .int (y1)), (2, .int (y2)), (3, .int (y3)), (4, .int (y4)), (5, .long (y5)), (7, .int (y7)), (8, .int (r6))]) hx hb zd_X10_reads_56 hl (by decide) rfl (fun ls hl => ?_)
          refine lv_iload hx hb zd_X10_reads_58 (lv_at hl 0 rfl) ?_
          have k85h : ∀ (_ : Unit) (H : Heap) (locs : List Loc) (ls : Array Slot), (
              let k135 := fun (h135j : zc_H) (y135_3 : Int32) (y135_4 : Int32) (y135_5 : Int64) =>
                zf_X10_reads_L18 q y1 y2 n h135j y135_3 y135_4 y135_5 (y7 + 1)
              if s56_0 = 0 then
                k135 h y3 (y4 + 1) (y5 ||| ((((r6 : Int32).toInt64) <<< (((8 * y4) : Int32).toInt64 &&& 63))))
              else
              (zf_gr h q 10 3).bind fun v10 =>
              (zf_gi h q 10 0).bind fun v12 =>
              v10.bind fun a14 =>
              (zf_sj h a14 ((24 * v12) + y3) y5).bind fun h15 =>
              k135 h15 (y3 + 1) 0 0
              ) = some w → zc_W g h H locs → lv_has ls 10 [(0, va_rf ((some q))), (1, .int (y1)), (2, .int (y2)), (3, .int (y3)), (4, .int (y4)), (5, .long (y5)), (7, .int (y7)), (8, .int (r6)), (9, .int (s56_0))] → W p l e zr_X10_reads s m [va_rf ((some q)), .int (x1)].toArray below meth c H locs (0 + 0) (0 + 0) (zc_Q g below zr_X10_reads (some (.int (res.2))) res.1 [va_rf ((some q)), .int (x1)] s) (F0 m 85 ls []) := by
            intro _ H locs ls hf hw hl
            refine lv_iload hx hb zd_X10_reads_85 (lv_at hl 8 rfl) ?_
            have k135h : ∀ (h135j : zc_H) (y135_3 : Int32) (y135_4 : Int32) (y135_5 : Int64) (H : Heap) (locs : List Loc) (ls : Array Slot), (
                zf_X10_reads_L18 q y1 y2 n h135j y135_3 y135_4 y135_5 (y7 + 1)
                ) = some w → zc_W g h135j H locs → lv_has ls 10 [(0, va_rf ((some q))), (1, .int (y1)), (2, .int (y2)), (3, .int (y135_3)), (4, .int (y135_4)), (5, .long (y135_5)), (7, .int (y7))] → W p l e zr_X10_reads s m [va_rf ((some q)), .int (x1)].toArray below meth c H locs (0 + 0) (0 + 0) (zc_Q g below zr_X10_reads (some (.int (res.2))) res.1 [va_rf ((some q)), .int (x1)] s) (F0 m 135 ls []) := by
              intro h135j y135_3 y135_4 y135_5 H locs ls hf hw hl
              refine lv_iinc (i := 7) (v := (y7 + 1)) (lv' := [(7, .int ((y7 + 1))), (0, va_rf ((some q))), (1, .int (y1)), (2, .int (y2)), (3, .int (y135_3)), (4, .int (y135_4)), (5, .long (y135_5))]) hx hb zd_X10_reads_135 hl (k := 6) rfl (congrArg (_ + ·) (by decide)) (by decide) rfl (fun ls hl => ?_)
              refine lv_goto (tgt := 18) hx hb zd_X10_reads_138 (by decide) ?_
              exact ih h135j y135_3 y135_4 y135_5 (y7 + 1) _ _ _ _ hf hw (lv_sub hl [1, 2, 3, 4, 5, 6, 0] rfl) kk1 kk2
            refine lv_if_eq (tgt := 118) hx hb zd_X10_reads_87 (by decide) (fun c9 => ?_) (fun c9 => ?_)
            · replace hf := zo_t c9 hf
              refine lv_lload hx hb zd_X10_reads_118 (lv_at hl 5 rfl) ?_
              refine lv_iload hx hb zd_X10_reads_120 (lv_at hl 7 rfl) ?_
              refine lv_i2l (v := ((r6 : Int32).toInt64)) hx hb zd_X10_reads_122 rfl ?_
              refine lv_bipush (v := 8) hx hb zd_X10_reads_123 (by decide) ?_
              refine lv_iload hx hb zd_X10_reads_125 (lv_at hl 4 rfl) ?_
              refine lv_imul hx hb zd_X10_reads_127 ?_
              refine lv_lshl (v := ((((r6 : Int32).toInt64) <<< (((8 * y4) : Int32).toInt64 &&& 63)))) hx hb zd_X10_reads_128 rfl ?_
              refine lv_lor hx hb zd_X10_reads_129 ?_
              refine lv_lstore (i := 5) (lv' := [(5, .long ((y5 ||| ((((r6 : Int32).toInt64) <<< (((8 * y4) : Int32).toInt64 &&& 63)))))), (0, va_rf ((some q))), (1, .int (y1)), (2, .int (y2)), (3, .int (y3)), (4, .int (y4)), (7, .int (y7)), (8, .int (r6)), (9, .int (s56_0))]) hx hb zd_X10_reads_130 hl (by decide) rfl (fun ls hl => ?_)
              refine lv_iinc (i := 4) (v := (y4 + 1)) (lv' := [(4, .int ((y4 + 1))), (5, .long ((y5 ||| ((((r6 : Int32).toInt64) <<< (((8 * y4) : Int32).toInt64 &&& 63)))))), (0, va_rf ((some q))), (1, .int (y1)), (2, .int (y2)), (3, .int (y3)), (7, .int (y7)), (8, .int (r6)), (9, .int (s56_0))]) hx hb zd_X10_reads_132 hl (k := 5) rfl (congrArg (_ + ·) (by decide)) (by decide) rfl (fun ls hl => ?_)
              exact k135h h y3 (y4 + 1) (y5 ||| ((((r6 : Int32).toInt64) <<< (((8 * y4) : Int32).toInt64 &&& 63)))) _ _ _ hf hw (lv_sub hl [2, 3, 4, 5, 0, 1, 6] rfl)
            · replace hf := zo_f c9 hf
              refine zl_aload_n hx hb zd_X10_reads_90 rfl (lv_at hl 0 rfl) ?_
              replace hf := zo_b hf; obtain ⟨v10, ev10, hf⟩ := hf
              obtain ⟨u11, u11e, u11v⟩ := zo_b ev10
              obtain rfl := zv_r_e u11v
              refine zw_get S hK hw zk_10 (k := 3) (by decide) rfl zm_1091 (Or.inl rfl) u11e zd_X10_reads_91 ?_
              refine lv_bipush (v := 24) hx hb zd_X10_reads_94 (by decide) ?_
              refine zl_aload_n hx hb zd_X10_reads_96 rfl (lv_at hl 0 rfl) ?_
              replace hf := zo_b hf; obtain ⟨v12, ev12, hf⟩ := hf
              obtain ⟨u13, u13e, u13v⟩ := zo_b ev12
              obtain rfl := zv_i_e u13v
              refine zw_get S hK hw zk_10 (k := 0) (by decide) rfl zm_1088 (Or.inl rfl) u13e zd_X10_reads_97 ?_
              refine lv_imul hx hb zd_X10_reads_100 ?_
              refine lv_iload_n hx hb zd_X10_reads_101 rfl (lv_at hl 3 rfl) ?_
              refine lv_iadd hx hb zd_X10_reads_102 ?_
              refine lv_lload hx hb zd_X10_reads_103 (lv_at hl 5 rfl) ?_
              replace hf := zo_b hf; obtain ⟨a14, na14, hf⟩ := hf
              refine W.eq (g2 := F0 m 105 ls [.long (y5), .int (((24 * v12) + y3)), va_rf ((some a14))]) (by rw [na14] <;> rfl) ?_
              replace hf := zo_b hf; obtain ⟨h15, eh15, hf⟩ := hf
              refine zw_last S hK hw eh15 zd_X10_reads_105 (fun H locs hw => ?_)
              refine lv_iinc (i := 3) (v := (y3 + 1)) (lv' := [(3, .int ((y3 + 1))), (0, va_rf ((some q))), (1, .int (y1)), (2, .int (y2)), (4, .int (y4)), (5, .long (y5)), (7, .int (y7)), (8, .int (r6)), (9, .int (s56_0))]) hx hb zd_X10_reads_106 hl (k := 3) rfl (congrArg (_ + ·) (by decide)) (by decide) rfl (fun ls hl => ?_)
              refine lv_iconst (v := 0) hx hb zd_X10_reads_109 (by decide) ?_
              refine lv_istore (i := 4) (lv' := [(4, .int (0)), (3, .int ((y3 + 1))), (0, va_rf ((some q))), (1, .int (y1)), (2, .int (y2)), (5, .long (y5)), (7, .int (y7)), (8, .int (r6)), (9, .int (s56_0))]) hx hb zd_X10_reads_110 hl (by decide) rfl (fun ls hl => ?_)
              refine lv_lconst (v := 0) hx hb zd_X10_reads_112 (by decide) ?_
              refine lv_lstore (i := 5) (lv' := [(5, .long (0)), (4, .int (0)), (3, .int ((y3 + 1))), (0, va_rf ((some q))), (1, .int (y1)), (2, .int (y2)), (7, .int (y7)), (8, .int (r6)), (9, .int (s56_0))]) hx hb zd_X10_reads_113 hl (by decide) rfl (fun ls hl => ?_)
              refine lv_goto (tgt := 135) hx hb zd_X10_reads_115 (by decide) ?_
              exact k135h h15 (y3 + 1) 0 0 _ _ _ hf hw (lv_sub hl [3, 4, 5, 2, 1, 0, 6] rfl)
          refine lv_if_ne (tgt := 85) hx hb zd_X10_reads_60 (by decide) (fun c8 => ?_) (fun c8 => ?_)
          · replace hf := zo_f c8 hf
            exact k85h () _ _ _ hf hw (lv_sub hl [1, 2, 3, 4, 5, 6, 7, 8, 0] rfl)
          · replace hf := zo_t c8 hf
            refine lv_iload hx hb zd_X10_reads_63 (lv_at hl 8 rfl) ?_
            refine lv_bipush (v := 97) hx hb zd_X10_reads_65 (by decide) ?_
            refine lv_bipush (v := 122) hx hb zd_X10_reads_67 (by decide) ?_
            replace hf := zo_b hf; obtain ⟨r16, er16, hf⟩ := hf
            refine zw_callS (n := 3) (As := [.int (r6), .int (97), .int (122)]) (rest := []) S hK hw (zt_X10_within l g h r6 97 122 _ er16) zm_1216 zm_1217 zq_X10_within zm_79 (by decide +kernel) ⟨Nat.le_of_ble_eq_true rfl, Nat.le_of_ble_eq_true rfl⟩ rfl hl.1 rfl (by simp [zv_cat, zv_ci, zv_cj]) zd_X10_reads_69 ⟨(Nat.le_refl 0), (Nat.le_refl 0)⟩ (fun H locs hw => ?_)
            replace hw : zc_W g h H locs := hw
            refine lv_if_eq (tgt := 82) hx hb zd_X10_reads_72 (by decide) (fun c17 => ?_) (fun c17 => ?_)
            · replace hf := zo_t c17 hf
              have hres := Option.some.inj hf; subst hres
              exact kk2 _ _ _ _ rfl hw (lv_sub hl [7] rfl)
            · replace hf := zo_f c17 hf
              refine lv_iload hx hb zd_X10_reads_75 (lv_at hl 5 rfl) ?_
              refine lv_bipush (v := 8) hx hb zd_X10_reads_77 (by decide) ?_
              refine lv_icmp_ne (tgt := 85) hx hb zd_X10_reads_79 (by decide) (fun c18 => ?_) (fun c18 => ?_)
              · replace hf := zo_f c18 hf
                exact k85h () _ _ _ hf hw (lv_sub hl [1, 2, 3, 4, 5, 6, 7, 8, 0] rfl)
              · replace hf := zo_t c18 hf
                have hres := Option.some.inj hf; subst hres
                exact kk2 _ _ _ _ rfl hw (lv_sub hl [7] rfl)
        have k55h : ∀ (_ : Unit) (H : Heap) (locs : List Loc) (ls : Array Slot), (
            let k56 := fun (s56_0 : Int32) =>
              let k85 := fun (_ : Unit) =>
                let k135 := fun (h135j : zc_H) (y135_3 : Int32) (y135_4 : Int32) (y135_5 : Int64) =>
                  zf_X10_reads_L18 q y1 y2 n h135j y135_3 y135_4 y135_5 (y7 + 1)
                if s56_0 = 0 then
                  k135 h y3 (y4 + 1) (y5 ||| ((((r6 : Int32).toInt64) <<< (((8 * y4) : Int32).toInt64 &&& 63))))
                else
                (zf_gr h q 10 3).bind fun v10 =>
                (zf_gi h q 10 0).bind fun v12 =>
                v10.bind fun a14 =>
                (zf_sj h a14 ((24 * v12) + y3) y5).bind fun h15 =>
                k135 h15 (y3 + 1) 0 0
              if s56_0 = 0 then
                (zf_X10_within h r6 97 122).bind fun r16 =>
                if r16 = 0 then
                  some (h, (.inr y7))
                else
                if y4 = 8 then
                  some (h, (.inr y7))
                else
                k85 ()
              else
              k85 ()
            k56 0
            ) = some w → zc_W g h H locs → lv_has ls 10 [(0, va_rf ((some q))), (1, .int (y1)), (2, .int (y2)), (3, .int (y3)), (4, .int (y4)), (5, .long (y5)), (7, .int (y7)), (8, .int (r6))] → W p l e zr_X10_reads s m [va_rf ((some q)), .int (x1)].toArray below meth c H locs (0 + 0) (0 + 0) (zc_Q g below zr_X10_reads (some (.int (res.2))) res.1 [va_rf ((some q)), .int (x1)] s) (F0 m 55 ls []) := by
          intro _ H locs ls hf hw hl
          refine lv_iconst (v := 0) hx hb zd_X10_reads_55 (by decide) ?_
          exact k56h 0 _ _ _ hf hw (lv_sub hl [0, 1, 2, 3, 4, 5, 6, 7] rfl)
        refine lv_icmp_ne (tgt := 55) hx hb zd_X10_reads_37 (by decide) (fun c7 => ?_) (fun c7 => ?_)
        · replace hf := zo_f c7 hf
          exact k55h () _ _ _ hf hw (lv_sub hl [1, 2, 3, 4, 5, 6, 7, 0] rfl)
        · replace hf := zo_t c7 hf
          refine lv_iload hx hb zd_X10_reads_40 (lv_at hl 5 rfl) ?_
          refine lv_if_le (tgt := 55) hx hb zd_X10_reads_42 (by decide) (fun c19 => ?_) (fun c19 => ?_)
          · replace hf := zo_t c19 hf
            exact k55h () _ _ _ hf hw (lv_sub hl [1, 2, 3, 4, 5, 6, 7, 0] rfl)
          · replace hf := zo_f c19 hf
            refine lv_iload_n hx hb zd_X10_reads_45 rfl (lv_at hl 4 rfl) ?_
            refine lv_bipush (v := 23) hx hb zd_X10_reads_46 (by decide) ?_
            refine lv_icmp_ge (tgt := 55) hx hb zd_X10_reads_48 (by decide) (fun c20 => ?_) (fun c20 => ?_)
            · replace hf := zo_t c20 hf
              exact k55h () _ _ _ hf hw (lv_sub hl [1, 2, 3, 4, 5, 6, 7, 0] rfl)
            · replace hf := zo_f c20 hf
              refine lv_iconst (v := 1) hx hb zd_X10_reads_51 (by decide) ?_
              refine lv_goto (tgt := 56) hx hb zd_X10_reads_52 (by decide) ?_
              exact k56h 1 _ _ _ hf hw (lv_sub hl [1, 2, 3, 4, 5, 6, 7, 0] rfl)
  unfold zf_X10_reads at hf
  obtain ⟨-, hf⟩ := zo_n hf
  refine zl_aload_n hx hb zd_X10_reads_0 rfl (lv_at hl 0 rfl) ?_
  replace hf := zo_b hf; obtain ⟨v1, ev1, hf⟩ := hf
  obtain ⟨u2, u2e, u2v⟩ := zo_b ev1
  obtain rfl := zv_r_e u2v
  refine zw_get S hK hw zk_10 (k := 10) (by decide) rfl zm_1098 (Or.inl rfl) u2e zd_X10_reads_1 ?_
  refine lv_iload_n hx hb zd_X10_reads_4 rfl (lv_at hl 1 rfl) ?_
  replace hf := zo_b hf; obtain ⟨a3, na3, hf⟩ := hf
  refine W.eq (g2 := F0 m 5 ls [.int (x1), va_rf ((some a3))]) (by rw [na3] <;> rfl) ?_
  replace hf := zo_b hf; obtain ⟨v4, ev4, hf⟩ := hf
  refine zw_iald S hK hw ev4 zd_X10_reads_5 ?_
  refine lv_istore_n (i := 2) (lv' := [(2, .int (v4)), (0, va_rf ((some q))), (1, .int (x1))]) hx hb zd_X10_reads_6 rfl hl (by decide) rfl (fun ls hl => ?_)
  refine lv_iconst (v := 0) hx hb zd_X10_reads_7 (by decide) ?_
  refine lv_istore_n (i := 3) (lv' := [(3, .int (0)), (2, .int (v4)), (0, va_rf ((some q))), (1, .int (x1))]) hx hb zd_X10_reads_8 rfl hl (by decide) rfl (fun ls hl => ?_)
  refine lv_iconst (v := 0) hx hb zd_X10_reads_9 (by decide) ?_
  refine lv_istore (i := 4) (lv' := [(4, .int (0)), (3, .int (0)), (2, .int (v4)), (0, va_rf ((some q))), (1, .int (x1))]) hx hb zd_X10_reads_10 hl (by decide) rfl (fun ls hl => ?_)
  refine lv_lconst (v := 0) hx hb zd_X10_reads_12 (by decide) ?_
  refine lv_lstore (i := 5) (lv' := [(5, .long (0)), (4, .int (0)), (3, .int (0)), (2, .int (v4)), (0, va_rf ((some q))), (1, .int (x1))]) hx hb zd_X10_reads_13 hl (by decide) rfl (fun ls hl => ?_)
  refine lv_iconst (v := 0) hx hb zd_X10_reads_15 (by decide) ?_
  refine lv_istore (i := 7) (lv' := [(7, .int (0)), (5, .long (0)), (4, .int (0)), (3, .int (0)), (2, .int (v4)), (0, va_rf ((some q))), (1, .int (x1))]) hx hb zd_X10_reads_16 hl (by decide) rfl (fun ls hl => ?_)
  replace hf := zo_b hf; obtain ⟨w21, w21e, hf⟩ := hf
  refine L18 x1 v4 2000 h 0 0 0 0 _ _ _ _ w21e hw (lv_sub hl [5, 6, 4, 3, 2, 1, 0] rfl) ?_ ?_
  · intro t22 H locs ls exw21 hw hl
    rw [exw21] at hf
    simp only [Sum.elim_inl, Sum.elim_inr] at hf
    refine lv_iload_n hx hb zd_X10_reads_141 rfl (lv_at hl 1 rfl) ?_
    have k152h : ∀ (_ : Unit) (H : Heap) (locs : List Loc) (ls : Array Slot), (
        let k172 := fun (h172j : zc_H) =>
          (zf_gr h172j q 10 2).bind fun v26 =>
          (zf_gi h172j q 10 0).bind fun v28 =>
          let k191 := fun (s191_0 : Int32) (s191_1 : Int32) (s191_2 : Option Nat) =>
            s191_2.bind fun a31 =>
            (zf_si h172j a31 0 s191_1 s191_0).bind fun h32 =>
            some (h32, (-1))
          if v4 ≤ 0 then
            k191 0 v28 v26
          else
          k191 (t22.1 + 1) v28 v26
        if v4 ≤ 0 then
          k172 w21.1
        else
        (zf_gr w21.1 q 10 3).bind fun v33 =>
        (zf_gi w21.1 q 10 0).bind fun v35 =>
        v33.bind fun a37 =>
        (zf_sj w21.1 a37 ((24 * v35) + t22.1) t22.2.2).bind fun h38 =>
        k172 h38
        ) = some res → zc_W g w21.1 H locs → lv_has ls 10 [(0, va_rf ((some q))), (2, .int (v4)), (3, .int (t22.1)), (5, .long (t22.2.2))] → W p l e zr_X10_reads s m [va_rf ((some q)), .int (x1)].toArray below meth c H locs 0 0 (zc_Q g below zr_X10_reads (some (.int (res.2))) res.1 [va_rf ((some q)), .int (x1)] s) (F0 m 152 ls []) := by
      intro _ H locs ls hf hw hl
      refine lv_iload_n hx hb zd_X10_reads_152 rfl (lv_at hl 1 rfl) ?_
      have k172h : ∀ (h172j : zc_H) (H : Heap) (locs : List Loc) (ls : Array Slot), (
          (zf_gr h172j q 10 2).bind fun v26 =>
          (zf_gi h172j q 10 0).bind fun v28 =>
          let k191 := fun (s191_0 : Int32) (s191_1 : Int32) (s191_2 : Option Nat) =>
            s191_2.bind fun a31 =>
            (zf_si h172j a31 0 s191_1 s191_0).bind fun h32 =>
            some (h32, (-1))
          if v4 ≤ 0 then
            k191 0 v28 v26
          else
          k191 (t22.1 + 1) v28 v26
          ) = some res → zc_W g h172j H locs → lv_has ls 10 [(0, va_rf ((some q))), (2, .int (v4)), (3, .int (t22.1))] → W p l e zr_X10_reads s m [va_rf ((some q)), .int (x1)].toArray below meth c H locs 0 0 (zc_Q g below zr_X10_reads (some (.int (res.2))) res.1 [va_rf ((some q)), .int (x1)] s) (F0 m 172 ls []) := by
        intro h172j H locs ls hf hw hl
        refine zl_aload_n hx hb zd_X10_reads_172 rfl (lv_at hl 0 rfl) ?_
        replace hf := zo_b hf; obtain ⟨v26, ev26, hf⟩ := hf
        obtain ⟨u27, u27e, u27v⟩ := zo_b ev26
        obtain rfl := zv_r_e u27v
        refine zw_get S hK hw zk_10 (k := 2) (by decide) rfl zm_1090 (Or.inl rfl) u27e zd_X10_reads_173 ?_
        refine zl_aload_n hx hb zd_X10_reads_176 rfl (lv_at hl 0 rfl) ?_
        replace hf := zo_b hf; obtain ⟨v28, ev28, hf⟩ := hf
        obtain ⟨u29, u29e, u29v⟩ := zo_b ev28
        obtain rfl := zv_i_e u29v
        refine zw_get S hK hw zk_10 (k := 0) (by decide) rfl zm_1088 (Or.inl rfl) u29e zd_X10_reads_177 ?_
        refine lv_iload_n hx hb zd_X10_reads_180 rfl (lv_at hl 1 rfl) ?_
        have k191h : ∀ (s191_0 : Int32) (s191_1 : Int32) (s191_2 : Option Nat) (H : Heap) (locs : List Loc) (ls : Array Slot), (
            s191_2.bind fun a31 =>
            (zf_si h172j a31 0 s191_1 s191_0).bind fun h32 =>
            some (h32, (-1))
            ) = some res → zc_W g h172j H locs → lv_has ls 10 [] → W p l e zr_X10_reads s m [va_rf ((some q)), .int (x1)].toArray below meth c H locs 0 0 (zc_Q g below zr_X10_reads (some (.int (res.2))) res.1 [va_rf ((some q)), .int (x1)] s) (F0 m 191 ls [.int (s191_0), .int (s191_1), va_rf (s191_2)]) := by
          intro s191_0 s191_1 s191_2 H locs ls hf hw hl
          replace hf := zo_b hf; obtain ⟨a31, na31, hf⟩ := hf
          refine W.eq (g2 := F0 m 191 ls [.int (s191_0), .int (s191_1), va_rf ((some a31))]) (by rw [na31] <;> rfl) ?_
          replace hf := zo_b hf; obtain ⟨h32, eh32, hf⟩ := hf
          refine zw_iast S hK hw eh32 zd_X10_reads_191 (fun H locs hw => ?_)
          refine lv_iconst (v := (-1)) hx hb zd_X10_reads_192 (by decide) ?_
          have hres := Option.some.inj hf; subst hres
          exact zw_iret (v := (-1)) (ty := .int) hx hb hr hlk rfl hw zd_X10_reads_193 (Nat.le_refl 0) (Nat.le_refl 0)
        refine lv_if_le (tgt := 190) hx hb zd_X10_reads_181 (by decide) (fun c30 => ?_) (fun c30 => ?_)
        · replace hf := zo_t c30 hf
          refine lv_iconst (v := 0) hx hb zd_X10_reads_190 (by decide) ?_
          exact k191h 0 v28 v26 _ _ _ hf hw (lv_sub hl [] rfl)
        · replace hf := zo_f c30 hf
          refine lv_iload_n hx hb zd_X10_reads_184 rfl (lv_at hl 2 rfl) ?_
          refine lv_iconst (v := 1) hx hb zd_X10_reads_185 (by decide) ?_
          refine lv_iadd hx hb zd_X10_reads_186 ?_
          refine lv_goto (tgt := 191) hx hb zd_X10_reads_187 (by decide) ?_
          exact k191h (t22.1 + 1) v28 v26 _ _ _ hf hw (lv_sub hl [] rfl)
      refine lv_if_le (tgt := 172) hx hb zd_X10_reads_153 (by decide) (fun c25 => ?_) (fun c25 => ?_)
      · replace hf := zo_t c25 hf
        exact k172h w21.1 _ _ _ hf hw (lv_sub hl [0, 1, 2] rfl)
      · replace hf := zo_f c25 hf
        refine zl_aload_n hx hb zd_X10_reads_156 rfl (lv_at hl 0 rfl) ?_
        replace hf := zo_b hf; obtain ⟨v33, ev33, hf⟩ := hf
        obtain ⟨u34, u34e, u34v⟩ := zo_b ev33
        obtain rfl := zv_r_e u34v
        refine zw_get S hK hw zk_10 (k := 3) (by decide) rfl zm_1091 (Or.inl rfl) u34e zd_X10_reads_157 ?_
        refine lv_bipush (v := 24) hx hb zd_X10_reads_160 (by decide) ?_
        refine zl_aload_n hx hb zd_X10_reads_162 rfl (lv_at hl 0 rfl) ?_
        replace hf := zo_b hf; obtain ⟨v35, ev35, hf⟩ := hf
        obtain ⟨u36, u36e, u36v⟩ := zo_b ev35
        obtain rfl := zv_i_e u36v
        refine zw_get S hK hw zk_10 (k := 0) (by decide) rfl zm_1088 (Or.inl rfl) u36e zd_X10_reads_163 ?_
        refine lv_imul hx hb zd_X10_reads_166 ?_
        refine lv_iload_n hx hb zd_X10_reads_167 rfl (lv_at hl 2 rfl) ?_
        refine lv_iadd hx hb zd_X10_reads_168 ?_
        refine lv_lload hx hb zd_X10_reads_169 (lv_at hl 3 rfl) ?_
        replace hf := zo_b hf; obtain ⟨a37, na37, hf⟩ := hf
        refine W.eq (g2 := F0 m 171 ls [.long (t22.2.2), .int (((24 * v35) + t22.1)), va_rf ((some a37))]) (by rw [na37] <;> rfl) ?_
        replace hf := zo_b hf; obtain ⟨h38, eh38, hf⟩ := hf
        refine zw_last S hK hw eh38 zd_X10_reads_171 (fun H locs hw => ?_)
        exact k172h h38 _ _ _ hf hw (lv_sub hl [0, 1, 2] rfl)
    refine lv_if_le (tgt := 152) hx hb zd_X10_reads_142 (by decide) (fun c24 => ?_) (fun c24 => ?_)
    · replace hf := zo_t c24 hf
      exact k152h () _ _ _ hf hw (lv_sub hl [0, 1, 2, 4] rfl)
    · replace hf := zo_f c24 hf
      refine lv_iload hx hb zd_X10_reads_145 (lv_at hl 3 rfl) ?_
      refine lv_if_ne (tgt := 152) hx hb zd_X10_reads_147 (by decide) (fun c39 => ?_) (fun c39 => ?_)
      · replace hf := zo_f c39 hf
        exact k152h () _ _ _ hf hw (lv_sub hl [0, 1, 2, 4] rfl)
      · replace hf := zo_t c39 hf
        refine lv_iload_n hx hb zd_X10_reads_150 rfl (lv_at hl 1 rfl) ?_
        have hres := Option.some.inj hf; subst hres
        exact zw_iret (v := v4) (ty := .int) hx hb hr hlk rfl hw zd_X10_reads_151 (Nat.le_refl 0) (Nat.le_refl 0)
  · intro t23 H locs ls exw21 hw hl
    rw [exw21] at hf
    simp only [Sum.elim_inl, Sum.elim_inr] at hf
    refine lv_iload hx hb zd_X10_reads_82 (lv_at hl 0 rfl) ?_
    have hres := Option.some.inj hf; subst hres
    exact zw_iret (v := t23) (ty := .int) hx hb hr hlk rfl hw zd_X10_reads_84 (Nat.le_refl 0) (Nat.le_refl 0)
def zf_X10_isAlike (h : zc_H) (q : Nat) (x1 : Int32) (x2 : Int32) (x3 : Int32) (x4 : Int32) : Option (Int32) :=
  if ¬ zf_is h q 10 = true then none else
  (zf_gr h q 10 3).bind fun v1 =>
  v1.bind fun a3 =>
  (zf_aj h a3 ((24 * x1) + x2)).bind fun v4 =>
  (zf_gr h q 10 3).bind fun v5 =>
  v5.bind fun a7 =>
  (zf_aj h a7 ((24 * x3) + x4)).bind fun v8 =>
  if (lg_cmp v4 v8) = 0 then
    some 1
  else
  some 0
abbrev zr_X10_isAlike : Room := { frames := 0, cells := 0, slots := 0, locals := 0 }
theorem zi_X10_isAlike {h : zc_H} {q : Nat} {x1 : Int32} {x2 : Int32} {x3 : Int32} {x4 : Int32} {res : Int32} (hf : zf_X10_isAlike h q x1 x2 x3 x4 = some res) : zf_is h q 10 = true := Decidable.not_not.mp (zo_n hf).1
set_option maxHeartbeats 4000000 in
set_option maxRecDepth 20000 in
theorem zt_X10_isAlike (l : Launch) (g : zc_G) (h : zc_H) (q : Nat) (x1 : Int32) (x2 : Int32) (x3 : Int32) (x4 : Int32) (res : Int32) (hf : zf_X10_isAlike h q x1 x2 x3 x4 = some res) : zc_M l g yX10_isAlike cX10_isAlike 5 (some .boolean) zr_X10_isAlike h [va_rf ((some q)), .int (x1), .int (x2), .int (x3), .int (x4)] h (some (.int (res))) := by
  refine zc_M.of (by decide) (by simp [lg_sl, zv_cat, zv_ci, zv_cj]) ?_
  intro p e s m below meth c ls S hK hw hr hlk hnm hl
  replace S : CallFix p m c cX10_isAlike 5 s [va_rf ((some q)), .int (x1), .int (x2), .int (x3), .int (x4)].toArray (zc_ws yX10_isAlike cX10_isAlike 5 (some .boolean)) RX10 := S
  have hx := S.1
  have hb := S.2.1
  replace hl : lv_has ls 5 [(0, va_rf ((some q))), (1, .int (x1)), (2, .int (x2)), (3, .int (x3)), (4, .int (x4))] := by simpa [lv_args, zv_cat, zv_ci, zv_cj] using hl
  generalize s.heap = H at hw ⊢
  obtain ⟨locs, hlocs⟩ : ∃ L : List Loc, L = [] := ⟨_, rfl⟩
  rw [← hlocs] at hw ⊢
  unfold zf_X10_isAlike at hf
  obtain ⟨-, hf⟩ := zo_n hf
  refine zl_aload_n hx hb zd_X10_isAlike_0 rfl (lv_at hl 0 rfl) ?_
  replace hf := zo_b hf; obtain ⟨v1, ev1, hf⟩ := hf
  obtain ⟨u2, u2e, u2v⟩ := zo_b ev1
  obtain rfl := zv_r_e u2v
  refine zw_get S hK hw zk_10 (k := 3) (by decide) rfl zm_1091 (Or.inl rfl) u2e zd_X10_isAlike_1 ?_
  refine lv_bipush (v := 24) hx hb zd_X10_isAlike_4 (by decide) ?_
  refine lv_iload_n hx hb zd_X10_isAlike_6 rfl (lv_at hl 1 rfl) ?_
  refine lv_imul hx hb zd_X10_isAlike_7 ?_
  refine lv_iload_n hx hb zd_X10_isAlike_8 rfl (lv_at hl 2 rfl) ?_
  refine lv_iadd hx hb zd_X10_isAlike_9 ?_
  replace hf := zo_b hf; obtain ⟨a3, na3, hf⟩ := hf
  refine W.eq (g2 := F0 m 10 ls [.int (((24 * x1) + x2)), va_rf ((some a3))]) (by rw [na3] <;> rfl) ?_
  replace hf := zo_b hf; obtain ⟨v4, ev4, hf⟩ := hf
  refine zw_lald S hK hw ev4 zd_X10_isAlike_10 ?_
  refine zl_aload_n hx hb zd_X10_isAlike_11 rfl (lv_at hl 0 rfl) ?_
  replace hf := zo_b hf; obtain ⟨v5, ev5, hf⟩ := hf
  obtain ⟨u6, u6e, u6v⟩ := zo_b ev5
  obtain rfl := zv_r_e u6v
  refine zw_get S hK hw zk_10 (k := 3) (by decide) rfl zm_1091 (Or.inl rfl) u6e zd_X10_isAlike_12 ?_
  refine lv_bipush (v := 24) hx hb zd_X10_isAlike_15 (by decide) ?_
  refine lv_iload_n hx hb zd_X10_isAlike_17 rfl (lv_at hl 3 rfl) ?_
  refine lv_imul hx hb zd_X10_isAlike_18 ?_
  refine lv_iload hx hb zd_X10_isAlike_19 (lv_at hl 4 rfl) ?_
  refine lv_iadd hx hb zd_X10_isAlike_21 ?_
  replace hf := zo_b hf; obtain ⟨a7, na7, hf⟩ := hf
  refine W.eq (g2 := F0 m 22 ls [.int (((24 * x3) + x4)), va_rf ((some a7)), .long (v4)]) (by rw [na7] <;> rfl) ?_
  replace hf := zo_b hf; obtain ⟨v8, ev8, hf⟩ := hf
  refine zw_lald S hK hw ev8 zd_X10_isAlike_22 ?_
  refine W.lcmp hx hb zd_X10_isAlike_23 ?_
  refine lv_if_ne (tgt := 31) hx hb zd_X10_isAlike_24 (by decide) (fun c9 => ?_) (fun c9 => ?_)
  · replace hf := zo_f c9 hf
    refine lv_iconst (v := 0) hx hb zd_X10_isAlike_31 (by decide) ?_
    have hres := Option.some.inj hf; subst hres
    exact zw_iret (v := 0) (ty := .boolean) hx hb hr hlk rfl hw zd_X10_isAlike_32 (Nat.le_refl 0) (Nat.le_refl 0)
  · replace hf := zo_t c9 hf
    refine lv_iconst (v := 1) hx hb zd_X10_isAlike_27 (by decide) ?_
    refine lv_goto (tgt := 32) hx hb zd_X10_isAlike_28 (by decide) ?_
    have hres := Option.some.inj hf; subst hres
    exact zw_iret (v := 1) (ty := .boolean) hx hb hr hlk rfl hw zd_X10_isAlike_32 (Nat.le_refl 0) (Nat.le_refl 0)
def zf_X10_pairs_L27 (q : Nat) (y1 : Int32) (y2 : Int32) (y3 : Int32) (y4 : Int32) (y5 : Int32) : Nat → zc_H → Int32 → Option (zc_H)
  | 0, _, _ => none
  | n + 1, h, y6 =>
    if y6 < 0 then
      some h
    else
    let k156 := fun (h156j : zc_H) =>
      zf_X10_pairs_L27 q y1 y2 y3 y4 y5 n h156j (y6 + (-1))
    let k45 := fun (_ : Unit) =>
      (zf_gr h q 10 25).bind fun v12 =>
      v12.bind fun a14 =>
      (zf_si h a14 0 ((25 * y5) + y6) 0).bind fun h15 =>
      k156 h15
    if y5 = y3 then
      k45 ()
    else
    if y6 = y4 then
      k45 ()
    else
    (zf_X10_isAlike h q y1 y5 y2 y6).bind fun r17 =>
    if r17 = 0 then
      (zf_gr h q 10 25).bind fun v19 =>
      (zf_gr h q 10 25).bind fun v21 =>
      v21.bind fun a23 =>
      (zf_ai h a23 0 (((25 * y5) + y6) + 25)).bind fun v24 =>
      (zf_gr h q 10 25).bind fun v25 =>
      v25.bind fun a27 =>
      (zf_ai h a27 0 (((25 * y5) + y6) + 1)).bind fun v28 =>
      v19.bind fun a29 =>
      (zf_si h a29 0 ((25 * y5) + y6) (if v24 < v28 then v28 else v24)).bind fun h30 =>
      k156 h30
    else
    (zf_gr h q 10 25).bind fun v31 =>
    (zf_gr h q 10 25).bind fun v33 =>
    v33.bind fun a35 =>
    (zf_ai h a35 0 (((25 * y5) + y6) + 26)).bind fun v36 =>
    v31.bind fun a37 =>
    (zf_si h a37 0 ((25 * y5) + y6) (v36 + 1)).bind fun h38 =>
    k156 h38
def zf_X10_pairs_L18 (q : Nat) (y1 : Int32) (y2 : Int32) (y3 : Int32) (y4 : Int32) : Nat → zc_H → Int32 → Option (zc_H)
  | 0, _, _ => none
  | n + 1, h, y5 =>
    if y5 < 0 then
      some h
    else
    (zf_X10_pairs_L27 q y1 y2 y3 y4 y5 2000 h y4).bind fun w39 =>
    zf_X10_pairs_L18 q y1 y2 y3 y4 n w39 (y5 + (-1))
def zf_X10_pairs_L174 (q : Nat) (y1 : Int32) (y2 : Int32) (y3 : Int32) (y4 : Int32) : Nat → zc_H → Int32 → Int32 → Option (zc_H)
  | 0, _, _, _ => none
  | n + 1, h, y5, y6 =>
    if y3 ≤ y5 then
      some h
    else
    if y4 ≤ y6 then
      some h
    else
    (zf_X10_isAlike h q y1 y5 y2 y6).bind fun r43 =>
    if r43 = 0 then
      (zf_gr h q 10 25).bind fun v45 =>
      v45.bind fun a47 =>
      (zf_ai h a47 0 (((25 * y5) + y6) + 25)).bind fun v48 =>
      (zf_gr h q 10 25).bind fun v49 =>
      v49.bind fun a51 =>
      (zf_ai h a51 0 (((25 * y5) + y6) + 1)).bind fun v52 =>
      if v48 < v52 then
        zf_X10_pairs_L174 q y1 y2 y3 y4 n h y5 (y6 + 1)
      else
      zf_X10_pairs_L174 q y1 y2 y3 y4 n h (y5 + 1) y6
    else
    (zf_gr h q 10 26).bind fun v54 =>
    v54.bind fun a56 =>
    (zf_si h a56 0 y5 y6).bind fun h57 =>
    (zf_gr h57 q 10 27).bind fun v58 =>
    v58.bind fun a60 =>
    (zf_si h57 a60 2 y6 (1 &&& 1)).bind fun h61 =>
    (zf_gi h61 q 10 28).bind fun v62 =>
    (zf_p h61 q 10 28 (.int ((v62 + 1)))).bind fun h64 =>
    zf_X10_pairs_L174 q y1 y2 y3 y4 n h64 (y5 + 1) (y6 + 1)
def zf_X10_pairs (h : zc_H) (q : Nat) (x1 : Int32) (x2 : Int32) : Option (zc_H) :=
  if ¬ zf_is h q 10 = true then none else
  (zf_gr h q 10 2).bind fun v1 =>
  v1.bind fun a3 =>
  (zf_ai h a3 0 x1).bind fun v4 =>
  (zf_gr h q 10 2).bind fun v5 =>
  v5.bind fun a7 =>
  (zf_ai h a7 0 x2).bind fun v8 =>
  (zf_X10_pairs_L18 q x1 x2 v4 v8 2000 h v4).bind fun w40 =>
  (zf_X10_pairs_L174 q x1 x2 v4 v8 2000 w40 0 0).bind fun w65 =>
  some w65
abbrev zr_X10_pairs : Room := { frames := 1, cells := 0, slots := 0, locals := 40 }
theorem zi_X10_pairs {h : zc_H} {q : Nat} {x1 : Int32} {x2 : Int32} {res : zc_H} (hf : zf_X10_pairs h q x1 x2 = some res) : zf_is h q 10 = true := Decidable.not_not.mp (zo_n hf).1
set_option maxHeartbeats 4000000 in
set_option maxRecDepth 20000 in
theorem zt_X10_pairs (l : Launch) (g : zc_G) (h : zc_H) (q : Nat) (x1 : Int32) (x2 : Int32) (res : zc_H) (hf : zf_X10_pairs h q x1 x2 = some res) : zc_M l g yX10_pairs cX10_pairs 7 none zr_X10_pairs h [va_rf ((some q)), .int (x1), .int (x2)] res none := by
  refine zc_M.of (by decide) (by simp [lg_sl, zv_cat, zv_ci, zv_cj]) ?_
  intro p e s m below meth c ls S hK hw hr hlk hnm hl
  replace S : CallFix p m c cX10_pairs 7 s [va_rf ((some q)), .int (x1), .int (x2)].toArray (zc_ws yX10_pairs cX10_pairs 7 none) RX10 := S
  have hx := S.1
  have hb := S.2.1
  replace hl : lv_has ls 7 [(0, va_rf ((some q))), (1, .int (x1)), (2, .int (x2))] := by simpa [lv_args, zv_cat, zv_ci, zv_cj] using hl
  generalize s.heap = H at hw ⊢
  obtain ⟨locs, hlocs⟩ : ∃ L : List Loc, L = [] := ⟨_, rfl⟩
  rw [← hlocs] at hw ⊢
  have L27 : ∀ (y1 : Int32) (y2 : Int32) (y3 : Int32) (y4 : Int32) (y5 : Int32) (n : Nat) (h : zc_H) (y6 : Int32) (w : zc_H) (H : Heap) (locs : List Loc) (ls : Array Slot), zf_X10_pairs_L27 q y1 y2 y3 y4 y5 n h y6 = some w → zc_W g h H locs → lv_has ls 7 [(0, va_rf ((some q))), (1, .int (y1)), (2, .int (y2)), (3, .int (y3)), (4, .int (y4)), (5, .int (y5)), (6, .int (y6))] → (∀ (H : Heap) (locs : List Loc) (ls : Array Slot), zc_W g w H locs → lv_has ls 7 [(0, va_rf ((some q))), (1, .int (y1)), (2, .int (y2)), (3, .int (y3)), (4, .int (y4)), (5, .int (y5))] → W p l e zr_X10_pairs s m [va_rf ((some q)), .int (x1), .int (x2)].toArray below meth c H locs 0 0 (zc_Q g below zr_X10_pairs none res [va_rf ((some q)), .int (x1), .int (x2)] s) (F0 m 162 ls [])) → W p l e zr_X10_pairs s m [va_rf ((some q)), .int (x1), .int (x2)].toArray below meth c H locs 0 0 (zc_Q g below zr_X10_pairs none res [va_rf ((some q)), .int (x1), .int (x2)] s) (F0 m 27 ls []) := by
    intro y1 y2 y3 y4 y5 n
    induction n with
    | zero =>
      intro h y6 w H locs ls hf
      cases hf
    | succ n ih =>
      intro h y6 w H locs ls hf hw hl  kk
      unfold zf_X10_pairs_L27 at hf
      refine lv_iload hx hb zd_X10_pairs_27 (lv_at hl 6 rfl) ?_
      refine lv_if_lt (tgt := 162) hx hb zd_X10_pairs_29 (by decide) (fun c10 => ?_) (fun c10 => ?_)
      · replace hf := zo_t c10 hf
        have hres := Option.some.inj hf; subst hres
        exact kk _ _ _ hw (lv_sub hl [0, 1, 2, 3, 4, 5] rfl)
      · replace hf := zo_f c10 hf
        refine lv_iload hx hb zd_X10_pairs_32 (lv_at hl 5 rfl) ?_
        refine lv_iload_n hx hb zd_X10_pairs_34 rfl (lv_at hl 3 rfl) ?_
        have k156h : ∀ (h156j : zc_H) (H : Heap) (locs : List Loc) (ls : Array Slot), (
            zf_X10_pairs_L27 q y1 y2 y3 y4 y5 n h156j (y6 + (-1))
            ) = some w → zc_W g h156j H locs → lv_has ls 7 [(0, va_rf ((some q))), (1, .int (y1)), (2, .int (y2)), (3, .int (y3)), (4, .int (y4)), (5, .int (y5)), (6, .int (y6))] → W p l e zr_X10_pairs s m [va_rf ((some q)), .int (x1), .int (x2)].toArray below meth c H locs 0 0 (zc_Q g below zr_X10_pairs none res [va_rf ((some q)), .int (x1), .int (x2)] s) (F0 m 156 ls []) := by
          intro h156j H locs ls hf hw hl
          refine lv_iinc (i := 6) (v := (y6 + (-1))) (lv' := [(6, .int ((y6 + (-1)))), (0, va_rf ((some q))), (1, .int (y1)), (2, .int (y2)), (3, .int (y3)), (4, .int (y4)), (5, .int (y5))]) hx hb zd_X10_pairs_156 hl (k := 6) rfl (congrArg (_ + ·) (by decide)) (by decide) rfl (fun ls hl => ?_)
          refine lv_goto (tgt := 27) hx hb zd_X10_pairs_159 (by decide) ?_
          exact ih h156j (y6 + (-1)) _ _ _ _ hf hw (lv_sub hl [1, 2, 3, 4, 5, 6, 0] rfl) kk
        have k45h : ∀ (_ : Unit) (H : Heap) (locs : List Loc) (ls : Array Slot), (
            let k156 := fun (h156j : zc_H) =>
              zf_X10_pairs_L27 q y1 y2 y3 y4 y5 n h156j (y6 + (-1))
            (zf_gr h q 10 25).bind fun v12 =>
            v12.bind fun a14 =>
            (zf_si h a14 0 ((25 * y5) + y6) 0).bind fun h15 =>
            k156 h15
            ) = some w → zc_W g h H locs → lv_has ls 7 [(0, va_rf ((some q))), (1, .int (y1)), (2, .int (y2)), (3, .int (y3)), (4, .int (y4)), (5, .int (y5)), (6, .int (y6))] → W p l e zr_X10_pairs s m [va_rf ((some q)), .int (x1), .int (x2)].toArray below meth c H locs 0 0 (zc_Q g below zr_X10_pairs none res [va_rf ((some q)), .int (x1), .int (x2)] s) (F0 m 45 ls []) := by
          intro _ H locs ls hf hw hl
          refine zl_aload_n hx hb zd_X10_pairs_45 rfl (lv_at hl 0 rfl) ?_
          replace hf := zo_b hf; obtain ⟨v12, ev12, hf⟩ := hf
          obtain ⟨u13, u13e, u13v⟩ := zo_b ev12
          obtain rfl := zv_r_e u13v
          refine zw_get S hK hw zk_10 (k := 25) (by decide) rfl zm_1113 (Or.inl rfl) u13e zd_X10_pairs_46 ?_
          refine lv_bipush (v := 25) hx hb zd_X10_pairs_49 (by decide) ?_
          refine lv_iload hx hb zd_X10_pairs_51 (lv_at hl 5 rfl) ?_
          refine lv_imul hx hb zd_X10_pairs_53 ?_
          refine lv_iload hx hb zd_X10_pairs_54 (lv_at hl 6 rfl) ?_
          refine lv_iadd hx hb zd_X10_pairs_56 ?_
          refine lv_iconst (v := 0) hx hb zd_X10_pairs_57 (by decide) ?_
          replace hf := zo_b hf; obtain ⟨a14, na14, hf⟩ := hf
          refine W.eq (g2 := F0 m 58 ls [.int (0), .int (((25 * y5) + y6)), va_rf ((some a14))]) (by rw [na14] <;> rfl) ?_
          replace hf := zo_b hf; obtain ⟨h15, eh15, hf⟩ := hf
          refine zw_iast S hK hw eh15 zd_X10_pairs_58 (fun H locs hw => ?_)
          refine lv_goto (tgt := 156) hx hb zd_X10_pairs_59 (by decide) ?_
          exact k156h h15 _ _ _ hf hw (lv_sub hl [0, 1, 2, 3, 4, 5, 6] rfl)
        refine lv_icmp_eq (tgt := 45) hx hb zd_X10_pairs_35 (by decide) (fun c11 => ?_) (fun c11 => ?_)
        · replace hf := zo_t c11 hf
          exact k45h () _ _ _ hf hw (lv_sub hl [0, 1, 2, 3, 4, 5, 6] rfl)
        · replace hf := zo_f c11 hf
          refine lv_iload hx hb zd_X10_pairs_38 (lv_at hl 6 rfl) ?_
          refine lv_iload hx hb zd_X10_pairs_40 (lv_at hl 4 rfl) ?_
          refine lv_icmp_ne (tgt := 62) hx hb zd_X10_pairs_42 (by decide) (fun c16 => ?_) (fun c16 => ?_)
          · replace hf := zo_f c16 hf
            refine zl_aload_n hx hb zd_X10_pairs_62 rfl (lv_at hl 0 rfl) ?_
            refine lv_iload_n hx hb zd_X10_pairs_63 rfl (lv_at hl 1 rfl) ?_
            refine lv_iload hx hb zd_X10_pairs_64 (lv_at hl 5 rfl) ?_
            refine lv_iload_n hx hb zd_X10_pairs_66 rfl (lv_at hl 2 rfl) ?_
            refine lv_iload hx hb zd_X10_pairs_67 (lv_at hl 6 rfl) ?_
            replace hf := zo_b hf; obtain ⟨r17, er17, hf⟩ := hf
            refine zw_callV (n := 4) (ci := 10) (q := zc_cl[10]) (As := [.int (y1), .int (y5), .int (y2), .int (y6)]) (rest := []) S hK hw (zt_X10_isAlike l g h q y1 y5 y2 y6 _ er17) zm_1301 zm_1303 zm_36 zq_X10_isAlike zm_79 (by decide +kernel) ⟨Nat.le_of_ble_eq_true rfl, Nat.le_of_ble_eq_true rfl⟩ rfl rfl rfl (zi_X10_isAlike er17) hl.1 rfl (by simp [zv_cat, zv_ci, zv_cj]) zd_X10_pairs_69 ⟨(Nat.le_refl 0), (Nat.le_refl 0)⟩ (fun H locs hw => ?_)
            replace hw : zc_W g h H locs := hw
            refine lv_if_eq (tgt := 109) hx hb zd_X10_pairs_72 (by decide) (fun c18 => ?_) (fun c18 => ?_)
            · replace hf := zo_t c18 hf
              refine zl_aload_n hx hb zd_X10_pairs_109 rfl (lv_at hl 0 rfl) ?_
              replace hf := zo_b hf; obtain ⟨v19, ev19, hf⟩ := hf
              obtain ⟨u20, u20e, u20v⟩ := zo_b ev19
              obtain rfl := zv_r_e u20v
              refine zw_get S hK hw zk_10 (k := 25) (by decide) rfl zm_1113 (Or.inl rfl) u20e zd_X10_pairs_110 ?_
              refine lv_bipush (v := 25) hx hb zd_X10_pairs_113 (by decide) ?_
              refine lv_iload hx hb zd_X10_pairs_115 (lv_at hl 5 rfl) ?_
              refine lv_imul hx hb zd_X10_pairs_117 ?_
              refine lv_iload hx hb zd_X10_pairs_118 (lv_at hl 6 rfl) ?_
              refine lv_iadd hx hb zd_X10_pairs_120 ?_
              refine zl_aload_n hx hb zd_X10_pairs_121 rfl (lv_at hl 0 rfl) ?_
              replace hf := zo_b hf; obtain ⟨v21, ev21, hf⟩ := hf
              obtain ⟨u22, u22e, u22v⟩ := zo_b ev21
              obtain rfl := zv_r_e u22v
              refine zw_get S hK hw zk_10 (k := 25) (by decide) rfl zm_1113 (Or.inl rfl) u22e zd_X10_pairs_122 ?_
              refine lv_bipush (v := 25) hx hb zd_X10_pairs_125 (by decide) ?_
              refine lv_iload hx hb zd_X10_pairs_127 (lv_at hl 5 rfl) ?_
              refine lv_imul hx hb zd_X10_pairs_129 ?_
              refine lv_iload hx hb zd_X10_pairs_130 (lv_at hl 6 rfl) ?_
              refine lv_iadd hx hb zd_X10_pairs_132 ?_
              refine lv_bipush (v := 25) hx hb zd_X10_pairs_133 (by decide) ?_
              refine lv_iadd hx hb zd_X10_pairs_135 ?_
              replace hf := zo_b hf; obtain ⟨a23, na23, hf⟩ := hf
              refine W.eq (g2 := F0 m 136 ls [.int ((((25 * y5) + y6) + 25)), va_rf ((some a23)), .int (((25 * y5) + y6)), va_rf (v19)]) (by rw [na23] <;> rfl) ?_
              replace hf := zo_b hf; obtain ⟨v24, ev24, hf⟩ := hf
              refine zw_iald S hK hw ev24 zd_X10_pairs_136 ?_
              refine zl_aload_n hx hb zd_X10_pairs_137 rfl (lv_at hl 0 rfl) ?_
              replace hf := zo_b hf; obtain ⟨v25, ev25, hf⟩ := hf
              obtain ⟨u26, u26e, u26v⟩ := zo_b ev25
              obtain rfl := zv_r_e u26v
              refine zw_get S hK hw zk_10 (k := 25) (by decide) rfl zm_1113 (Or.inl rfl) u26e zd_X10_pairs_138 ?_
              refine lv_bipush (v := 25) hx hb zd_X10_pairs_141 (by decide) ?_
              refine lv_iload hx hb zd_X10_pairs_143 (lv_at hl 5 rfl) ?_
              refine lv_imul hx hb zd_X10_pairs_145 ?_
              refine lv_iload hx hb zd_X10_pairs_146 (lv_at hl 6 rfl) ?_
              refine lv_iadd hx hb zd_X10_pairs_148 ?_
              refine lv_iconst (v := 1) hx hb zd_X10_pairs_149 (by decide) ?_
              refine lv_iadd hx hb zd_X10_pairs_150 ?_
              replace hf := zo_b hf; obtain ⟨a27, na27, hf⟩ := hf
              refine W.eq (g2 := F0 m 151 ls [.int ((((25 * y5) + y6) + 1)), va_rf ((some a27)), .int (v24), .int (((25 * y5) + y6)), va_rf (v19)]) (by rw [na27] <;> rfl) ?_
              replace hf := zo_b hf; obtain ⟨v28, ev28, hf⟩ := hf
              refine zw_iald S hK hw ev28 zd_X10_pairs_151 ?_
              refine va_mmax hx hb (S.2.2.1.trans hl.1.symm) S.2.2.2.1 (S.2.2.2.2 _ (List.mem_cons_of_mem _ zm_1305)) (S.2.2.2.2 _ (List.mem_cons_of_mem _ zm_569)) (S.2.2.2.2 _ (List.mem_cons_of_mem _ zm_85)) (S.2.2.2.2 _ (List.mem_cons_of_mem _ zm_570)) (Nat.le_of_ble_eq_true rfl) (by simp [zv_cat, zv_ci, zv_cj, zr_X10_pairs]) (Nat.le_refl 0) (Nat.le_refl 0) zd_X10_pairs_152 ?_
              replace hf := zo_b hf; obtain ⟨a29, na29, hf⟩ := hf
              refine W.eq (g2 := F0 m 155 ls [.int ((if v24 < v28 then v28 else v24)), .int (((25 * y5) + y6)), va_rf ((some a29))]) (by rw [na29] <;> rfl) ?_
              replace hf := zo_b hf; obtain ⟨h30, eh30, hf⟩ := hf
              refine zw_iast S hK hw eh30 zd_X10_pairs_155 (fun H locs hw => ?_)
              exact k156h h30 _ _ _ hf hw (lv_sub hl [0, 1, 2, 3, 4, 5, 6] rfl)
            · replace hf := zo_f c18 hf
              refine zl_aload_n hx hb zd_X10_pairs_75 rfl (lv_at hl 0 rfl) ?_
              replace hf := zo_b hf; obtain ⟨v31, ev31, hf⟩ := hf
              obtain ⟨u32, u32e, u32v⟩ := zo_b ev31
              obtain rfl := zv_r_e u32v
              refine zw_get S hK hw zk_10 (k := 25) (by decide) rfl zm_1113 (Or.inl rfl) u32e zd_X10_pairs_76 ?_
              refine lv_bipush (v := 25) hx hb zd_X10_pairs_79 (by decide) ?_
              refine lv_iload hx hb zd_X10_pairs_81 (lv_at hl 5 rfl) ?_
              refine lv_imul hx hb zd_X10_pairs_83 ?_
              refine lv_iload hx hb zd_X10_pairs_84 (lv_at hl 6 rfl) ?_
              refine lv_iadd hx hb zd_X10_pairs_86 ?_
              refine zl_aload_n hx hb zd_X10_pairs_87 rfl (lv_at hl 0 rfl) ?_
              replace hf := zo_b hf; obtain ⟨v33, ev33, hf⟩ := hf
              obtain ⟨u34, u34e, u34v⟩ := zo_b ev33
              obtain rfl := zv_r_e u34v
              refine zw_get S hK hw zk_10 (k := 25) (by decide) rfl zm_1113 (Or.inl rfl) u34e zd_X10_pairs_88 ?_
              refine lv_bipush (v := 25) hx hb zd_X10_pairs_91 (by decide) ?_
              refine lv_iload hx hb zd_X10_pairs_93 (lv_at hl 5 rfl) ?_
              refine lv_imul hx hb zd_X10_pairs_95 ?_
              refine lv_iload hx hb zd_X10_pairs_96 (lv_at hl 6 rfl) ?_
              refine lv_iadd hx hb zd_X10_pairs_98 ?_
              refine lv_bipush (v := 26) hx hb zd_X10_pairs_99 (by decide) ?_
              refine lv_iadd hx hb zd_X10_pairs_101 ?_
              replace hf := zo_b hf; obtain ⟨a35, na35, hf⟩ := hf
              refine W.eq (g2 := F0 m 102 ls [.int ((((25 * y5) + y6) + 26)), va_rf ((some a35)), .int (((25 * y5) + y6)), va_rf (v31)]) (by rw [na35] <;> rfl) ?_
              replace hf := zo_b hf; obtain ⟨v36, ev36, hf⟩ := hf
              refine zw_iald S hK hw ev36 zd_X10_pairs_102 ?_
              refine lv_iconst (v := 1) hx hb zd_X10_pairs_103 (by decide) ?_
              refine lv_iadd hx hb zd_X10_pairs_104 ?_
              replace hf := zo_b hf; obtain ⟨a37, na37, hf⟩ := hf
              refine W.eq (g2 := F0 m 105 ls [.int ((v36 + 1)), .int (((25 * y5) + y6)), va_rf ((some a37))]) (by rw [na37] <;> rfl) ?_
              replace hf := zo_b hf; obtain ⟨h38, eh38, hf⟩ := hf
              refine zw_iast S hK hw eh38 zd_X10_pairs_105 (fun H locs hw => ?_)
              refine lv_goto (tgt := 156) hx hb zd_X10_pairs_106 (by decide) ?_
              exact k156h h38 _ _ _ hf hw (lv_sub hl [0, 1, 2, 3, 4, 5, 6] rfl)
          · replace hf := zo_t c16 hf
            exact k45h () _ _ _ hf hw (lv_sub hl [0, 1, 2, 3, 4, 5, 6] rfl)
  have L18 : ∀ (y1 : Int32) (y2 : Int32) (y3 : Int32) (y4 : Int32) (n : Nat) (h : zc_H) (y5 : Int32) (w : zc_H) (H : Heap) (locs : List Loc) (ls : Array Slot), zf_X10_pairs_L18 q y1 y2 y3 y4 n h y5 = some w → zc_W g h H locs → lv_has ls 7 [(0, va_rf ((some q))), (1, .int (y1)), (2, .int (y2)), (3, .int (y3)), (4, .int (y4)), (5, .int (y5))] → (∀ (H : Heap) (locs : List Loc) (ls : Array Slot), zc_W g w H locs → lv_has ls 7 [(0, va_rf ((some q))), (1, .int (y1)), (2, .int (y2)), (3, .int (y3)), (4, .int (y4))] → W p l e zr_X10_pairs s m [va_rf ((some q)), .int (x1), .int (x2)].toArray below meth c H locs 0 0 (zc_Q g below zr_X10_pairs none res [va_rf ((some q)), .int (x1), .int (x2)] s) (F0 m 168 ls [])) → W p l e zr_X10_pairs s m [va_rf ((some q)), .int (x1), .int (x2)].toArray below meth c H locs 0 0 (zc_Q g below zr_X10_pairs none res [va_rf ((some q)), .int (x1), .int (x2)] s) (F0 m 18 ls []) := by
    intro y1 y2 y3 y4 n
    induction n with
    | zero =>
      intro h y5 w H locs ls hf
      cases hf
    | succ n ih =>
      intro h y5 w H locs ls hf hw hl  kk
      unfold zf_X10_pairs_L18 at hf
      refine lv_iload hx hb zd_X10_pairs_18 (lv_at hl 5 rfl) ?_
      refine lv_if_lt (tgt := 168) hx hb zd_X10_pairs_20 (by decide) (fun c9 => ?_) (fun c9 => ?_)
      · replace hf := zo_t c9 hf
        have hres := Option.some.inj hf; subst hres
        exact kk _ _ _ hw (lv_sub hl [0, 1, 2, 3, 4] rfl)
      · replace hf := zo_f c9 hf
        refine lv_iload hx hb zd_X10_pairs_23 (lv_at hl 4 rfl) ?_
        refine lv_istore (i := 6) (lv' := [(6, .int (y4)), (0, va_rf ((some q))), (1, .int (y1)), (2, .int (y2)), (3, .int (y3)), (4, .int (y4)), (5, .int (y5))]) hx hb zd_X10_pairs_25 hl (by decide) rfl (fun ls hl => ?_)
        replace hf := zo_b hf; obtain ⟨w39, w39e, hf⟩ := hf
        refine L27 y1 y2 y3 y4 y5 2000 h y4 _ _ _ _ w39e hw (lv_sub hl [1, 2, 3, 4, 5, 6, 0] rfl) (fun H locs ls hw hl => ?_)
        refine lv_iinc (i := 5) (v := (y5 + (-1))) (lv' := [(5, .int ((y5 + (-1)))), (0, va_rf ((some q))), (1, .int (y1)), (2, .int (y2)), (3, .int (y3)), (4, .int (y4))]) hx hb zd_X10_pairs_162 hl (k := 5) rfl (congrArg (_ + ·) (by decide)) (by decide) rfl (fun ls hl => ?_)
        refine lv_goto (tgt := 18) hx hb zd_X10_pairs_165 (by decide) ?_
        exact ih w39 (y5 + (-1)) _ _ _ _ hf hw (lv_sub hl [1, 2, 3, 4, 5, 0] rfl) kk
  have L174 : ∀ (y1 : Int32) (y2 : Int32) (y3 : Int32) (y4 : Int32) (n : Nat) (h : zc_H) (y5 : Int32) (y6 : Int32) (w : zc_H) (H : Heap) (locs : List Loc) (ls : Array Slot), zf_X10_pairs_L174 q y1 y2 y3 y4 n h y5 y6 = some w → zc_W g h H locs → lv_has ls 7 [(0, va_rf ((some q))), (1, .int (y1)), (2, .int (y2)), (3, .int (y3)), (4, .int (y4)), (5, .int (y5)), (6, .int (y6))] → (∀ (H : Heap) (locs : List Loc) (ls : Array Slot), zc_W g w H locs → lv_has ls 7 [] → W p l e zr_X10_pairs s m [va_rf ((some q)), .int (x1), .int (x2)].toArray below meth c H locs 0 0 (zc_Q g below zr_X10_pairs none res [va_rf ((some q)), .int (x1), .int (x2)] s) (F0 m 282 ls [])) → W p l e zr_X10_pairs s m [va_rf ((some q)), .int (x1), .int (x2)].toArray below meth c H locs 0 0 (zc_Q g below zr_X10_pairs none res [va_rf ((some q)), .int (x1), .int (x2)] s) (F0 m 174 ls []) := by
    intro y1 y2 y3 y4 n
    induction n with
    | zero =>
      intro h y5 y6 w H locs ls hf
      cases hf
    | succ n ih =>
      intro h y5 y6 w H locs ls hf hw hl  kk
      unfold zf_X10_pairs_L174 at hf
      refine lv_iload hx hb zd_X10_pairs_174 (lv_at hl 5 rfl) ?_
      refine lv_iload_n hx hb zd_X10_pairs_176 rfl (lv_at hl 3 rfl) ?_
      refine lv_icmp_ge (tgt := 282) hx hb zd_X10_pairs_177 (by decide) (fun c41 => ?_) (fun c41 => ?_)
      · replace hf := zo_t c41 hf
        have hres := Option.some.inj hf; subst hres
        exact kk _ _ _ hw (lv_sub hl [] rfl)
      · replace hf := zo_f c41 hf
        refine lv_iload hx hb zd_X10_pairs_180 (lv_at hl 6 rfl) ?_
        refine lv_iload hx hb zd_X10_pairs_182 (lv_at hl 4 rfl) ?_
        refine lv_icmp_ge (tgt := 282) hx hb zd_X10_pairs_184 (by decide) (fun c42 => ?_) (fun c42 => ?_)
        · replace hf := zo_t c42 hf
          have hres := Option.some.inj hf; subst hres
          exact kk _ _ _ hw (lv_sub hl [] rfl)
        · replace hf := zo_f c42 hf
          refine zl_aload_n hx hb zd_X10_pairs_187 rfl (lv_at hl 0 rfl) ?_
          refine lv_iload_n hx hb zd_X10_pairs_188 rfl (lv_at hl 1 rfl) ?_
          refine lv_iload hx hb zd_X10_pairs_189 (lv_at hl 5 rfl) ?_
          refine lv_iload_n hx hb zd_X10_pairs_191 rfl (lv_at hl 2 rfl) ?_
          refine lv_iload hx hb zd_X10_pairs_192 (lv_at hl 6 rfl) ?_
          replace hf := zo_b hf; obtain ⟨r43, er43, hf⟩ := hf
          refine zw_callV (n := 4) (ci := 10) (q := zc_cl[10]) (As := [.int (y1), .int (y5), .int (y2), .int (y6)]) (rest := []) S hK hw (zt_X10_isAlike l g h q y1 y5 y2 y6 _ er43) zm_1301 zm_1303 zm_36 zq_X10_isAlike zm_79 (by decide +kernel) ⟨Nat.le_of_ble_eq_true rfl, Nat.le_of_ble_eq_true rfl⟩ rfl rfl rfl (zi_X10_isAlike er43) hl.1 rfl (by simp [zv_cat, zv_ci, zv_cj]) zd_X10_pairs_194 ⟨(Nat.le_refl 0), (Nat.le_refl 0)⟩ (fun H locs hw => ?_)
          replace hw : zc_W g h H locs := hw
          refine lv_if_eq (tgt := 236) hx hb zd_X10_pairs_197 (by decide) (fun c44 => ?_) (fun c44 => ?_)
          · replace hf := zo_t c44 hf
            refine zl_aload_n hx hb zd_X10_pairs_236 rfl (lv_at hl 0 rfl) ?_
            replace hf := zo_b hf; obtain ⟨v45, ev45, hf⟩ := hf
            obtain ⟨u46, u46e, u46v⟩ := zo_b ev45
            obtain rfl := zv_r_e u46v
            refine zw_get S hK hw zk_10 (k := 25) (by decide) rfl zm_1113 (Or.inl rfl) u46e zd_X10_pairs_237 ?_
            refine lv_bipush (v := 25) hx hb zd_X10_pairs_240 (by decide) ?_
            refine lv_iload hx hb zd_X10_pairs_242 (lv_at hl 5 rfl) ?_
            refine lv_imul hx hb zd_X10_pairs_244 ?_
            refine lv_iload hx hb zd_X10_pairs_245 (lv_at hl 6 rfl) ?_
            refine lv_iadd hx hb zd_X10_pairs_247 ?_
            refine lv_bipush (v := 25) hx hb zd_X10_pairs_248 (by decide) ?_
            refine lv_iadd hx hb zd_X10_pairs_250 ?_
            replace hf := zo_b hf; obtain ⟨a47, na47, hf⟩ := hf
            refine W.eq (g2 := F0 m 251 ls [.int ((((25 * y5) + y6) + 25)), va_rf ((some a47))]) (by rw [na47] <;> rfl) ?_
            replace hf := zo_b hf; obtain ⟨v48, ev48, hf⟩ := hf
            refine zw_iald S hK hw ev48 zd_X10_pairs_251 ?_
            refine zl_aload_n hx hb zd_X10_pairs_252 rfl (lv_at hl 0 rfl) ?_
            replace hf := zo_b hf; obtain ⟨v49, ev49, hf⟩ := hf
            obtain ⟨u50, u50e, u50v⟩ := zo_b ev49
            obtain rfl := zv_r_e u50v
            refine zw_get S hK hw zk_10 (k := 25) (by decide) rfl zm_1113 (Or.inl rfl) u50e zd_X10_pairs_253 ?_
            refine lv_bipush (v := 25) hx hb zd_X10_pairs_256 (by decide) ?_
            refine lv_iload hx hb zd_X10_pairs_258 (lv_at hl 5 rfl) ?_
            refine lv_imul hx hb zd_X10_pairs_260 ?_
            refine lv_iload hx hb zd_X10_pairs_261 (lv_at hl 6 rfl) ?_
            refine lv_iadd hx hb zd_X10_pairs_263 ?_
            refine lv_iconst (v := 1) hx hb zd_X10_pairs_264 (by decide) ?_
            refine lv_iadd hx hb zd_X10_pairs_265 ?_
            replace hf := zo_b hf; obtain ⟨a51, na51, hf⟩ := hf
            refine W.eq (g2 := F0 m 266 ls [.int ((((25 * y5) + y6) + 1)), va_rf ((some a51)), .int (v48)]) (by rw [na51] <;> rfl) ?_
            replace hf := zo_b hf; obtain ⟨v52, ev52, hf⟩ := hf
            refine zw_iald S hK hw ev52 zd_X10_pairs_266 ?_
            refine lv_icmp_lt (tgt := 276) hx hb zd_X10_pairs_267 (by decide) (fun c53 => ?_) (fun c53 => ?_)
            · replace hf := zo_t c53 hf
              refine lv_iinc (i := 6) (v := (y6 + 1)) (lv' := [(6, .int ((y6 + 1))), (0, va_rf ((some q))), (1, .int (y1)), (2, .int (y2)), (3, .int (y3)), (4, .int (y4)), (5, .int (y5))]) hx hb zd_X10_pairs_276 hl (k := 6) rfl (congrArg (_ + ·) (by decide)) (by decide) rfl (fun ls hl => ?_)
              refine lv_goto (tgt := 174) hx hb zd_X10_pairs_279 (by decide) ?_
              exact ih h y5 (y6 + 1) _ _ _ _ hf hw (lv_sub hl [1, 2, 3, 4, 5, 6, 0] rfl) kk
            · replace hf := zo_f c53 hf
              refine lv_iinc (i := 5) (v := (y5 + 1)) (lv' := [(5, .int ((y5 + 1))), (0, va_rf ((some q))), (1, .int (y1)), (2, .int (y2)), (3, .int (y3)), (4, .int (y4)), (6, .int (y6))]) hx hb zd_X10_pairs_270 hl (k := 5) rfl (congrArg (_ + ·) (by decide)) (by decide) rfl (fun ls hl => ?_)
              refine lv_goto (tgt := 174) hx hb zd_X10_pairs_273 (by decide) ?_
              exact ih h (y5 + 1) y6 _ _ _ _ hf hw (lv_sub hl [1, 2, 3, 4, 5, 0, 6] rfl) kk
          · replace hf := zo_f c44 hf
            refine zl_aload_n hx hb zd_X10_pairs_200 rfl (lv_at hl 0 rfl) ?_
            replace hf := zo_b hf; obtain ⟨v54, ev54, hf⟩ := hf
            obtain ⟨u55, u55e, u55v⟩ := zo_b ev54
            obtain rfl := zv_r_e u55v
            refine zw_get S hK hw zk_10 (k := 26) (by decide) rfl zm_1114 (Or.inl rfl) u55e zd_X10_pairs_201 ?_
            refine lv_iload hx hb zd_X10_pairs_204 (lv_at hl 5 rfl) ?_
            refine lv_iload hx hb zd_X10_pairs_206 (lv_at hl 6 rfl) ?_
            replace hf := zo_b hf; obtain ⟨a56, na56, hf⟩ := hf
            refine W.eq (g2 := F0 m 208 ls [.int (y6), .int (y5), va_rf ((some a56))]) (by rw [na56] <;> rfl) ?_
            replace hf := zo_b hf; obtain ⟨h57, eh57, hf⟩ := hf
            refine zw_iast S hK hw eh57 zd_X10_pairs_208 (fun H locs hw => ?_)
            refine zl_aload_n hx hb zd_X10_pairs_209 rfl (lv_at hl 0 rfl) ?_
            replace hf := zo_b hf; obtain ⟨v58, ev58, hf⟩ := hf
            obtain ⟨u59, u59e, u59v⟩ := zo_b ev58
            obtain rfl := zv_r_e u59v
            refine zw_get S hK hw zk_10 (k := 27) (by decide) rfl zm_1115 (Or.inl rfl) u59e zd_X10_pairs_210 ?_
            refine lv_iload hx hb zd_X10_pairs_213 (lv_at hl 6 rfl) ?_
            refine lv_iconst (v := 1) hx hb zd_X10_pairs_215 (by decide) ?_
            replace hf := zo_b hf; obtain ⟨a60, na60, hf⟩ := hf
            refine W.eq (g2 := F0 m 216 ls [.int (1), .int (y6), va_rf ((some a60))]) (by rw [na60] <;> rfl) ?_
            replace hf := zo_b hf; obtain ⟨h61, eh61, hf⟩ := hf
            refine zw_zast S hK hw eh61 zd_X10_pairs_216 (fun H locs hw => ?_)
            refine zl_aload_n hx hb zd_X10_pairs_217 rfl (lv_at hl 0 rfl) ?_
            refine lv_dup hx hb zd_X10_pairs_218 rfl ?_
            replace hf := zo_b hf; obtain ⟨v62, ev62, hf⟩ := hf
            obtain ⟨u63, u63e, u63v⟩ := zo_b ev62
            obtain rfl := zv_i_e u63v
            refine zw_get S hK hw zk_10 (k := 28) (by decide) rfl zm_1116 (Or.inl rfl) u63e zd_X10_pairs_219 ?_
            refine lv_iconst (v := 1) hx hb zd_X10_pairs_222 (by decide) ?_
            refine lv_iadd hx hb zd_X10_pairs_223 ?_
            replace hf := zo_b hf; obtain ⟨h64, eh64, hf⟩ := hf
            refine zw_put S hK hw zk_10 (k := 28) (by decide) rfl zm_1116 (Or.inl rfl) eh64 (ty := .int) (by decide +kernel) rfl rfl zd_X10_pairs_224 (fun H locs hw => ?_)
            refine lv_iinc (i := 5) (v := (y5 + 1)) (lv' := [(5, .int ((y5 + 1))), (0, va_rf ((some q))), (1, .int (y1)), (2, .int (y2)), (3, .int (y3)), (4, .int (y4)), (6, .int (y6))]) hx hb zd_X10_pairs_227 hl (k := 5) rfl (congrArg (_ + ·) (by decide)) (by decide) rfl (fun ls hl => ?_)
            refine lv_iinc (i := 6) (v := (y6 + 1)) (lv' := [(6, .int ((y6 + 1))), (5, .int ((y5 + 1))), (0, va_rf ((some q))), (1, .int (y1)), (2, .int (y2)), (3, .int (y3)), (4, .int (y4))]) hx hb zd_X10_pairs_230 hl (k := 6) rfl (congrArg (_ + ·) (by decide)) (by decide) rfl (fun ls hl => ?_)
            refine lv_goto (tgt := 174) hx hb zd_X10_pairs_233 (by decide) ?_
            exact ih h64 (y5 + 1) (y6 + 1) _ _ _ _ hf hw (lv_sub hl [2, 3, 4, 5, 6, 1, 0] rfl) kk
  unfold zf_X10_pairs at hf
  obtain ⟨-, hf⟩ := zo_n hf
  refine zl_aload_n hx hb zd_X10_pairs_0 rfl (lv_at hl 0 rfl) ?_
  replace hf := zo_b hf; obtain ⟨v1, ev1, hf⟩ := hf
  obtain ⟨u2, u2e, u2v⟩ := zo_b ev1
  obtain rfl := zv_r_e u2v
  refine zw_get S hK hw zk_10 (k := 2) (by decide) rfl zm_1090 (Or.inl rfl) u2e zd_X10_pairs_1 ?_
  refine lv_iload_n hx hb zd_X10_pairs_4 rfl (lv_at hl 1 rfl) ?_
  replace hf := zo_b hf; obtain ⟨a3, na3, hf⟩ := hf
  refine W.eq (g2 := F0 m 5 ls [.int (x1), va_rf ((some a3))]) (by rw [na3] <;> rfl) ?_
  replace hf := zo_b hf; obtain ⟨v4, ev4, hf⟩ := hf
  refine zw_iald S hK hw ev4 zd_X10_pairs_5 ?_
  refine lv_istore_n (i := 3) (lv' := [(3, .int (v4)), (0, va_rf ((some q))), (1, .int (x1)), (2, .int (x2))]) hx hb zd_X10_pairs_6 rfl hl (by decide) rfl (fun ls hl => ?_)
  refine zl_aload_n hx hb zd_X10_pairs_7 rfl (lv_at hl 1 rfl) ?_
  replace hf := zo_b hf; obtain ⟨v5, ev5, hf⟩ := hf
  obtain ⟨u6, u6e, u6v⟩ := zo_b ev5
  obtain rfl := zv_r_e u6v
  refine zw_get S hK hw zk_10 (k := 2) (by decide) rfl zm_1090 (Or.inl rfl) u6e zd_X10_pairs_8 ?_
  refine lv_iload_n hx hb zd_X10_pairs_11 rfl (lv_at hl 3 rfl) ?_
  replace hf := zo_b hf; obtain ⟨a7, na7, hf⟩ := hf
  refine W.eq (g2 := F0 m 12 ls [.int (x2), va_rf ((some a7))]) (by rw [na7] <;> rfl) ?_
  replace hf := zo_b hf; obtain ⟨v8, ev8, hf⟩ := hf
  refine zw_iald S hK hw ev8 zd_X10_pairs_12 ?_
  refine lv_istore (i := 4) (lv' := [(4, .int (v8)), (3, .int (v4)), (0, va_rf ((some q))), (1, .int (x1)), (2, .int (x2))]) hx hb zd_X10_pairs_13 hl (by decide) rfl (fun ls hl => ?_)
  refine lv_iload_n hx hb zd_X10_pairs_15 rfl (lv_at hl 1 rfl) ?_
  refine lv_istore (i := 5) (lv' := [(5, .int (v4)), (4, .int (v8)), (3, .int (v4)), (0, va_rf ((some q))), (1, .int (x1)), (2, .int (x2))]) hx hb zd_X10_pairs_16 hl (by decide) rfl (fun ls hl => ?_)
  replace hf := zo_b hf; obtain ⟨w40, w40e, hf⟩ := hf
  refine L18 x1 x2 v4 v8 2000 h v4 _ _ _ _ w40e hw (lv_sub hl [3, 4, 5, 2, 1, 0] rfl) (fun H locs ls hw hl => ?_)
  refine lv_iconst (v := 0) hx hb zd_X10_pairs_168 (by decide) ?_
  refine lv_istore (i := 5) (lv' := [(5, .int (0)), (0, va_rf ((some q))), (1, .int (x1)), (2, .int (x2)), (3, .int (v4)), (4, .int (v8))]) hx hb zd_X10_pairs_169 hl (by decide) rfl (fun ls hl => ?_)
  refine lv_iconst (v := 0) hx hb zd_X10_pairs_171 (by decide) ?_
  refine lv_istore (i := 6) (lv' := [(6, .int (0)), (5, .int (0)), (0, va_rf ((some q))), (1, .int (x1)), (2, .int (x2)), (3, .int (v4)), (4, .int (v8))]) hx hb zd_X10_pairs_172 hl (by decide) rfl (fun ls hl => ?_)
  replace hf := zo_b hf; obtain ⟨w65, w65e, hf⟩ := hf
  refine L174 x1 x2 v4 v8 2000 w40 0 0 _ _ _ _ w65e hw (lv_sub hl [2, 3, 4, 5, 6, 1, 0] rfl) (fun H locs ls hw hl => ?_)
  have hres := Option.some.inj hf; subst hres
  exact zw_vret hx hb hr hlk hw zd_X10_pairs_282 (Nat.le_refl 0) (Nat.le_refl 0)
