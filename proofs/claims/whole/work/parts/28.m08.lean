def zf_X10_settled_L4 (h : zc_H) (q : Nat) : Nat → Int32 → Int32 → Option (Int32)
  | 0, _, _ => none
  | n + 1, y1, y2 =>
    (zf_gi h q 10 5).bind fun v1 =>
    if v1 ≤ y2 then
      some y1
    else
    (zf_X10_of h q 6 y2).bind fun r4 =>
    zf_X10_settled_L4 h q n (y1 + r4) (y2 + 1)
def zf_X10_settled (h : zc_H) (q : Nat) : Option (Int32) :=
  if ¬ zf_is h q 10 = true then none else
  (zf_X10_settled_L4 h q 2000 0 0).bind fun w5 =>
  some w5
abbrev zr_X10_settled : Room := { frames := 1, cells := 0, slots := 0, locals := 22 }
theorem zi_X10_settled {h : zc_H} {q : Nat} {res : Int32} (hf : zf_X10_settled h q = some res) : zf_is h q 10 = true := Decidable.not_not.mp (zo_n hf).1
set_option maxHeartbeats 4000000 in
set_option maxRecDepth 20000 in
theorem zt_X10_settled (l : Launch) (g : zc_G) (h : zc_H) (q : Nat) (res : Int32) (hf : zf_X10_settled h q = some res) : zc_M l g yX10_settled cX10_settled 3 (some .int) zr_X10_settled h [va_rf ((some q))] h (some (.int (res))) := by
  refine zc_M.of (by decide) (by simp [lg_sl, zv_cat, zv_ci, zv_cj]) ?_
  intro p e s m below meth c ls S hK hw hr hlk hnm hl
  replace S : CallFix p m c cX10_settled 3 s [va_rf ((some q))].toArray (zc_ws yX10_settled cX10_settled 3 (some .int)) RX10 := S
  have hx := S.1
  have hb := S.2.1
  replace hl : lv_has ls 3 [(0, va_rf ((some q)))] := by simpa [lv_args, zv_cat, zv_ci, zv_cj] using hl
  generalize s.heap = H at hw ⊢
  obtain ⟨locs, hlocs⟩ : ∃ L : List Loc, L = [] := ⟨_, rfl⟩
  rw [← hlocs] at hw ⊢
  have L4 : ∀ (h : zc_H) (n : Nat) (y1 : Int32) (y2 : Int32) (w : Int32) (H : Heap) (locs : List Loc) (ls : Array Slot), zf_X10_settled_L4 h q n y1 y2 = some w → zc_W g h H locs → lv_has ls 3 [(0, va_rf ((some q))), (1, .int (y1)), (2, .int (y2))] → (∀ (H : Heap) (locs : List Loc) (ls : Array Slot), zc_W g h H locs → lv_has ls 3 [(1, .int (w))] → W p l e zr_X10_settled s m [va_rf ((some q))].toArray below meth c H locs 0 0 (zc_Q g below zr_X10_settled (some (.int (res))) h [va_rf ((some q))] s) (F0 m 28 ls [])) → W p l e zr_X10_settled s m [va_rf ((some q))].toArray below meth c H locs 0 0 (zc_Q g below zr_X10_settled (some (.int (res))) h [va_rf ((some q))] s) (F0 m 4 ls []) := by
    intro h n
    induction n with
    | zero =>
      intro y1 y2 w H locs ls hf
      cases hf
    | succ n ih =>
      intro y1 y2 w H locs ls hf hw hl  kk
      unfold zf_X10_settled_L4 at hf
      refine lv_iload_n hx hb zd_X10_settled_4 rfl (lv_at hl 2 rfl) ?_
      refine zl_aload_n hx hb zd_X10_settled_5 rfl (lv_at hl 0 rfl) ?_
      replace hf := zo_b hf; obtain ⟨v1, ev1, hf⟩ := hf
      obtain ⟨u2, u2e, u2v⟩ := zo_b ev1
      obtain rfl := zv_i_e u2v
      refine zw_get S hK hw zk_10 (k := 5) (by decide) rfl zm_1093 (Or.inl rfl) u2e zd_X10_settled_6 ?_
      refine lv_icmp_ge (tgt := 28) hx hb zd_X10_settled_9 (by decide) (fun c3 => ?_) (fun c3 => ?_)
      · replace hf := zo_t c3 hf
        have hres := Option.some.inj hf; subst hres
        exact kk _ _ _ hw (lv_sub hl [1] rfl)
      · replace hf := zo_f c3 hf
        refine lv_iload_n hx hb zd_X10_settled_12 rfl (lv_at hl 1 rfl) ?_
        refine zl_aload_n hx hb zd_X10_settled_13 rfl (lv_at hl 0 rfl) ?_
        refine lv_bipush (v := 6) hx hb zd_X10_settled_14 (by decide) ?_
        refine lv_iload_n hx hb zd_X10_settled_16 rfl (lv_at hl 2 rfl) ?_
        replace hf := zo_b hf; obtain ⟨r4, er4, hf⟩ := hf
        refine zw_callV (n := 2) (ci := 10) (q := zc_cl[10]) (As := [.int (6), .int (y2)]) (rest := [.int (y1)]) S hK hw (zt_X10_of l g h q 6 y2 _ er4) zm_1259 zm_1261 zm_28 zq_X10_of zm_79 (by decide +kernel) ⟨Nat.le_of_ble_eq_true rfl, Nat.le_of_ble_eq_true rfl⟩ rfl rfl rfl (zi_X10_of er4) hl.1 rfl (by simp [zv_cat, zv_ci, zv_cj]) zd_X10_settled_17 ⟨(Nat.le_refl 0), (Nat.le_refl 0)⟩ (fun H locs hw => ?_)
        replace hw : zc_W g h H locs := hw
        refine lv_iadd hx hb zd_X10_settled_20 ?_
        refine lv_istore_n (i := 1) (lv' := [(1, .int ((y1 + r4))), (0, va_rf ((some q))), (2, .int (y2))]) hx hb zd_X10_settled_21 rfl hl (by decide) rfl (fun ls hl => ?_)
        refine lv_iinc (i := 2) (v := (y2 + 1)) (lv' := [(2, .int ((y2 + 1))), (1, .int ((y1 + r4))), (0, va_rf ((some q)))]) hx hb zd_X10_settled_22 hl (k := 2) rfl (congrArg (_ + ·) (by decide)) (by decide) rfl (fun ls hl => ?_)
        refine lv_goto (tgt := 4) hx hb zd_X10_settled_25 (by decide) ?_
        exact ih (y1 + r4) (y2 + 1) _ _ _ _ hf hw (lv_sub hl [2, 1, 0] rfl) kk
  unfold zf_X10_settled at hf
  obtain ⟨-, hf⟩ := zo_n hf
  refine lv_iconst (v := 0) hx hb zd_X10_settled_0 (by decide) ?_
  refine lv_istore_n (i := 1) (lv' := [(1, .int (0)), (0, va_rf ((some q)))]) hx hb zd_X10_settled_1 rfl hl (by decide) rfl (fun ls hl => ?_)
  refine lv_iconst (v := 0) hx hb zd_X10_settled_2 (by decide) ?_
  refine lv_istore_n (i := 2) (lv' := [(2, .int (0)), (1, .int (0)), (0, va_rf ((some q)))]) hx hb zd_X10_settled_3 rfl hl (by decide) rfl (fun ls hl => ?_)
  replace hf := zo_b hf; obtain ⟨w5, w5e, hf⟩ := hf
  refine L4 h  2000 0 0 _ _ _ _ w5e hw (lv_sub hl [2, 1, 0] rfl) (fun H locs ls hw hl => ?_)
  refine lv_iload_n hx hb zd_X10_settled_28 rfl (lv_at hl 0 rfl) ?_
  have hres := Option.some.inj hf; subst hres
  exact zw_iret (v := w5) (ty := .int) hx hb hr hlk rfl hw zd_X10_settled_29 (Nat.le_refl 0) (Nat.le_refl 0)
def zf_X10_openOnes_L4 (h : zc_H) (q : Nat) : Nat → Int32 → Int32 → Option (Int32)
  | 0, _, _ => none
  | n + 1, y1, y2 =>
    (zf_gi h q 10 5).bind fun v1 =>
    if v1 ≤ y2 then
      some y1
    else
    (zf_X10_of h q 5 y2).bind fun r4 =>
    let k33 := fun (y33_1 : Int32) =>
      zf_X10_openOnes_L4 h q n y33_1 (y2 + 1)
    if r4 = (-1) then
      (zf_X10_isOpen h q y2).bind fun r6 =>
      if r6 = 0 then
        k33 y1
      else
      k33 (y1 + 1)
    else
    k33 y1
def zf_X10_openOnes (h : zc_H) (q : Nat) : Option (Int32) :=
  if ¬ zf_is h q 10 = true then none else
  (zf_X10_openOnes_L4 h q 2000 0 0).bind fun w8 =>
  some w8
abbrev zr_X10_openOnes : Room := { frames := 3, cells := 0, slots := 0, locals := 67 }
theorem zi_X10_openOnes {h : zc_H} {q : Nat} {res : Int32} (hf : zf_X10_openOnes h q = some res) : zf_is h q 10 = true := Decidable.not_not.mp (zo_n hf).1
set_option maxHeartbeats 4000000 in
set_option maxRecDepth 20000 in
theorem zt_X10_openOnes (l : Launch) (g : zc_G) (h : zc_H) (q : Nat) (res : Int32) (hf : zf_X10_openOnes h q = some res) : zc_M l g yX10_openOnes cX10_openOnes 3 (some .int) zr_X10_openOnes h [va_rf ((some q))] h (some (.int (res))) := by
  refine zc_M.of (by decide) (by simp [lg_sl, zv_cat, zv_ci, zv_cj]) ?_
  intro p e s m below meth c ls S hK hw hr hlk hnm hl
  replace S : CallFix p m c cX10_openOnes 3 s [va_rf ((some q))].toArray (zc_ws yX10_openOnes cX10_openOnes 3 (some .int)) RX10 := S
  have hx := S.1
  have hb := S.2.1
  replace hl : lv_has ls 3 [(0, va_rf ((some q)))] := by simpa [lv_args, zv_cat, zv_ci, zv_cj] using hl
  generalize s.heap = H at hw ⊢
  obtain ⟨locs, hlocs⟩ : ∃ L : List Loc, L = [] := ⟨_, rfl⟩
  rw [← hlocs] at hw ⊢
  have L4 : ∀ (h : zc_H) (n : Nat) (y1 : Int32) (y2 : Int32) (w : Int32) (H : Heap) (locs : List Loc) (ls : Array Slot), zf_X10_openOnes_L4 h q n y1 y2 = some w → zc_W g h H locs → lv_has ls 3 [(0, va_rf ((some q))), (1, .int (y1)), (2, .int (y2))] → (∀ (H : Heap) (locs : List Loc) (ls : Array Slot), zc_W g h H locs → lv_has ls 3 [(1, .int (w))] → W p l e zr_X10_openOnes s m [va_rf ((some q))].toArray below meth c H locs 0 0 (zc_Q g below zr_X10_openOnes (some (.int (res))) h [va_rf ((some q))] s) (F0 m 39 ls [])) → W p l e zr_X10_openOnes s m [va_rf ((some q))].toArray below meth c H locs 0 0 (zc_Q g below zr_X10_openOnes (some (.int (res))) h [va_rf ((some q))] s) (F0 m 4 ls []) := by
    intro h n
    induction n with
    | zero =>
      intro y1 y2 w H locs ls hf
      cases hf
    | succ n ih =>
      intro y1 y2 w H locs ls hf hw hl  kk
      unfold zf_X10_openOnes_L4 at hf
      refine lv_iload_n hx hb zd_X10_openOnes_4 rfl (lv_at hl 2 rfl) ?_
      refine zl_aload_n hx hb zd_X10_openOnes_5 rfl (lv_at hl 0 rfl) ?_
      replace hf := zo_b hf; obtain ⟨v1, ev1, hf⟩ := hf
      obtain ⟨u2, u2e, u2v⟩ := zo_b ev1
      obtain rfl := zv_i_e u2v
      refine zw_get S hK hw zk_10 (k := 5) (by decide) rfl zm_1093 (Or.inl rfl) u2e zd_X10_openOnes_6 ?_
      refine lv_icmp_ge (tgt := 39) hx hb zd_X10_openOnes_9 (by decide) (fun c3 => ?_) (fun c3 => ?_)
      · replace hf := zo_t c3 hf
        have hres := Option.some.inj hf; subst hres
        exact kk _ _ _ hw (lv_sub hl [1] rfl)
      · replace hf := zo_f c3 hf
        refine zl_aload_n hx hb zd_X10_openOnes_12 rfl (lv_at hl 0 rfl) ?_
        refine lv_iconst (v := 5) hx hb zd_X10_openOnes_13 (by decide) ?_
        refine lv_iload_n hx hb zd_X10_openOnes_14 rfl (lv_at hl 2 rfl) ?_
        replace hf := zo_b hf; obtain ⟨r4, er4, hf⟩ := hf
        refine zw_callV (n := 2) (ci := 10) (q := zc_cl[10]) (As := [.int (5), .int (y2)]) (rest := []) S hK hw (zt_X10_of l g h q 5 y2 _ er4) zm_1259 zm_1261 zm_28 zq_X10_of zm_79 (by decide +kernel) ⟨Nat.le_of_ble_eq_true rfl, Nat.le_of_ble_eq_true rfl⟩ rfl rfl rfl (zi_X10_of er4) hl.1 rfl (by simp [zv_cat, zv_ci, zv_cj]) zd_X10_openOnes_15 ⟨(Nat.le_refl 0), (Nat.le_refl 0)⟩ (fun H locs hw => ?_)
        replace hw : zc_W g h H locs := hw
        refine lv_iconst (v := (-1)) hx hb zd_X10_openOnes_18 (by decide) ?_
        have k33h : ∀ (y33_1 : Int32) (H : Heap) (locs : List Loc) (ls : Array Slot), (
            zf_X10_openOnes_L4 h q n y33_1 (y2 + 1)
            ) = some w → zc_W g h H locs → lv_has ls 3 [(0, va_rf ((some q))), (1, .int (y33_1)), (2, .int (y2))] → W p l e zr_X10_openOnes s m [va_rf ((some q))].toArray below meth c H locs (0 + 0) (0 + 0) (zc_Q g below zr_X10_openOnes (some (.int (res))) h [va_rf ((some q))] s) (F0 m 33 ls []) := by
          intro y33_1 H locs ls hf hw hl
          refine lv_iinc (i := 2) (v := (y2 + 1)) (lv' := [(2, .int ((y2 + 1))), (0, va_rf ((some q))), (1, .int (y33_1))]) hx hb zd_X10_openOnes_33 hl (k := 2) rfl (congrArg (_ + ·) (by decide)) (by decide) rfl (fun ls hl => ?_)
          refine lv_goto (tgt := 4) hx hb zd_X10_openOnes_36 (by decide) ?_
          exact ih y33_1 (y2 + 1) _ _ _ _ hf hw (lv_sub hl [1, 2, 0] rfl) kk
        refine lv_icmp_ne (tgt := 33) hx hb zd_X10_openOnes_19 (by decide) (fun c5 => ?_) (fun c5 => ?_)
        · replace hf := zo_f c5 hf
          exact k33h y1 _ _ _ hf hw (lv_sub hl [0, 1, 2] rfl)
        · replace hf := zo_t c5 hf
          refine zl_aload_n hx hb zd_X10_openOnes_22 rfl (lv_at hl 0 rfl) ?_
          refine lv_iload_n hx hb zd_X10_openOnes_23 rfl (lv_at hl 2 rfl) ?_
          replace hf := zo_b hf; obtain ⟨r6, er6, hf⟩ := hf
          refine zw_callV (n := 1) (ci := 10) (q := zc_cl[10]) (As := [.int (y2)]) (rest := []) S hK hw (zt_X10_isOpen l g h q y2 _ er6) zm_1391 zm_1393 zm_47 zq_X10_isOpen zm_79 (by decide +kernel) ⟨Nat.le_of_ble_eq_true rfl, Nat.le_of_ble_eq_true rfl⟩ rfl rfl rfl (zi_X10_isOpen er6) hl.1 rfl (by simp [zv_cat, zv_ci, zv_cj]) zd_X10_openOnes_24 ⟨(Nat.le_refl 0), (Nat.le_refl 0)⟩ (fun H locs hw => ?_)
          replace hw : zc_W g h H locs := hw
          refine lv_if_eq (tgt := 33) hx hb zd_X10_openOnes_27 (by decide) (fun c7 => ?_) (fun c7 => ?_)
          · replace hf := zo_t c7 hf
            exact k33h y1 _ _ _ hf hw (lv_sub hl [0, 1, 2] rfl)
          · replace hf := zo_f c7 hf
            refine lv_iinc (i := 1) (v := (y1 + 1)) (lv' := [(1, .int ((y1 + 1))), (0, va_rf ((some q))), (2, .int (y2))]) hx hb zd_X10_openOnes_30 hl (k := 1) rfl (congrArg (_ + ·) (by decide)) (by decide) rfl (fun ls hl => ?_)
            exact k33h (y1 + 1) _ _ _ hf hw (lv_sub hl [1, 0, 2] rfl)
  unfold zf_X10_openOnes at hf
  obtain ⟨-, hf⟩ := zo_n hf
  refine lv_iconst (v := 0) hx hb zd_X10_openOnes_0 (by decide) ?_
  refine lv_istore_n (i := 1) (lv' := [(1, .int (0)), (0, va_rf ((some q)))]) hx hb zd_X10_openOnes_1 rfl hl (by decide) rfl (fun ls hl => ?_)
  refine lv_iconst (v := 0) hx hb zd_X10_openOnes_2 (by decide) ?_
  refine lv_istore_n (i := 2) (lv' := [(2, .int (0)), (1, .int (0)), (0, va_rf ((some q)))]) hx hb zd_X10_openOnes_3 rfl hl (by decide) rfl (fun ls hl => ?_)
  replace hf := zo_b hf; obtain ⟨w8, w8e, hf⟩ := hf
  refine L4 h  2000 0 0 _ _ _ _ w8e hw (lv_sub hl [2, 1, 0] rfl) (fun H locs ls hw hl => ?_)
  refine lv_iload_n hx hb zd_X10_openOnes_39 rfl (lv_at hl 0 rfl) ?_
  have hres := Option.some.inj hf; subst hres
  exact zw_iret (v := w8) (ty := .int) hx hb hr hlk rfl hw zd_X10_openOnes_40 (Nat.le_refl 0) (Nat.le_refl 0)
def zf_X10_status (h : zc_H) (q : Nat) (x1 : Int32) : Option (Int32) :=
  if ¬ zf_is h q 10 = true then none else
  (zf_X10_within h x1 11 17).bind fun r1 =>
  if r1 = 0 then
    if x1 = 0 then
      (zf_gi h q 10 0).bind fun v4 =>
      some v4
    else
    if x1 = 1 then
      (zf_gi h q 10 5).bind fun v7 =>
      some v7
    else
    if x1 = 2 then
      (zf_X10_settled h q).bind fun r10 =>
      some r10
    else
    if x1 = 3 then
      (zf_X10_openOnes h q).bind fun r12 =>
      some r12
    else
    if x1 = 4 then
      (zf_gr h q 10 7).bind fun v14 =>
      v14.bind fun a16 =>
      (zf_ai h a16 0 0).bind fun v17 =>
      some v17
    else
    if x1 = 5 then
      (zf_gr h q 10 7).bind fun v19 =>
      v19.bind fun a21 =>
      (zf_ai h a21 0 1).bind fun v22 =>
      some v22
    else
    if x1 = 6 then
      (zf_gr h q 10 7).bind fun v24 =>
      v24.bind fun a26 =>
      (zf_ai h a26 0 2).bind fun v27 =>
      some v27
    else
    if x1 = 7 then
      (zf_gi h q 10 8).bind fun v29 =>
      some v29
    else
    if x1 = 8 then
      (zf_gi h q 10 0).bind fun v32 =>
      if v32 = 0 then
        some 0
      else
      (zf_gr h q 10 2).bind fun v35 =>
      (zf_gi h q 10 0).bind fun v37 =>
      v35.bind fun a39 =>
      (zf_ai h a39 0 (v37 - 1)).bind fun v40 =>
      some v40
    else
    if x1 = 9 then
      (zf_gi h q 10 13).bind fun v42 =>
      some v42
    else
    some (-1)
  else
  (zf_gr h q 10 15).bind fun v44 =>
  v44.bind fun a46 =>
  (zf_ai h a46 0 (x1 - 10)).bind fun v47 =>
  some v47
abbrev zr_X10_status : Room := { frames := 4, cells := 0, slots := 0, locals := 89 }
theorem zi_X10_status {h : zc_H} {q : Nat} {x1 : Int32} {res : Int32} (hf : zf_X10_status h q x1 = some res) : zf_is h q 10 = true := Decidable.not_not.mp (zo_n hf).1
set_option maxHeartbeats 4000000 in
set_option maxRecDepth 20000 in
theorem zt_X10_status (l : Launch) (g : zc_G) (h : zc_H) (q : Nat) (x1 : Int32) (res : Int32) (hf : zf_X10_status h q x1 = some res) : zc_M l g yX10_status cX10_status 2 (some .int) zr_X10_status h [va_rf ((some q)), .int (x1)] h (some (.int (res))) := by
  refine zc_M.of (by decide) (by simp [lg_sl, zv_cat, zv_ci, zv_cj]) ?_
  intro p e s m below meth c ls S hK hw hr hlk hnm hl
  replace S : CallFix p m c cX10_status 2 s [va_rf ((some q)), .int (x1)].toArray (zc_ws yX10_status cX10_status 2 (some .int)) RX10 := S
  have hx := S.1
  have hb := S.2.1
  replace hl : lv_has ls 2 [(0, va_rf ((some q))), (1, .int (x1))] := by simpa [lv_args, zv_cat, zv_ci, zv_cj] using hl
  generalize s.heap = H at hw ⊢
  obtain ⟨locs, hlocs⟩ : ∃ L : List Loc, L = [] := ⟨_, rfl⟩
  rw [← hlocs] at hw ⊢
  unfold zf_X10_status at hf
  obtain ⟨-, hf⟩ := zo_n hf
  refine lv_iload_n hx hb zd_X10_status_0 rfl (lv_at hl 1 rfl) ?_
  refine lv_bipush (v := 11) hx hb zd_X10_status_1 (by decide) ?_
  refine lv_bipush (v := 17) hx hb zd_X10_status_3 (by decide) ?_
  replace hf := zo_b hf; obtain ⟨r1, er1, hf⟩ := hf
  refine zw_callS (n := 3) (As := [.int (x1), .int (11), .int (17)]) (rest := []) S hK hw (zt_X10_within l g h x1 11 17 _ er1) zm_1216 zm_1217 zq_X10_within zm_79 (by decide +kernel) ⟨Nat.le_of_ble_eq_true rfl, Nat.le_of_ble_eq_true rfl⟩ rfl hl.1 rfl (by simp [zv_cat, zv_ci, zv_cj]) zd_X10_status_5 ⟨(Nat.le_refl 0), (Nat.le_refl 0)⟩ (fun H locs hw => ?_)
  replace hw : zc_W g h H locs := hw
  refine lv_if_eq (tgt := 21) hx hb zd_X10_status_8 (by decide) (fun c2 => ?_) (fun c2 => ?_)
  · replace hf := zo_t c2 hf
    refine lv_iload_n hx hb zd_X10_status_21 rfl (lv_at hl 1 rfl) ?_
    by_cases c3 : x1 = 0
    · replace hf := zo_t c3 hf
      refine W.eq (g2 := F0 m 22 ls (.int 0 :: [])) (by rw [c3] <;> rfl) ?_
      refine lv_tableIn (off := 54) (tgt := 76) hx hb zd_X10_status_22 (by decide) (by decide) (by decide) (by decide) ?_
      refine zl_aload_n hx hb zd_X10_status_76 rfl (lv_at hl 0 rfl) ?_
      replace hf := zo_b hf; obtain ⟨v4, ev4, hf⟩ := hf
      obtain ⟨u5, u5e, u5v⟩ := zo_b ev4
      obtain rfl := zv_i_e u5v
      refine zw_get S hK hw zk_10 (k := 0) (by decide) rfl zm_1088 (Or.inl rfl) u5e zd_X10_status_77 ?_
      have hres := Option.some.inj hf; subst hres
      exact zw_iret (v := v4) (ty := .int) hx hb hr hlk rfl hw zd_X10_status_80 (Nat.le_refl 0) (Nat.le_refl 0)
    replace hf := zo_f c3 hf
    by_cases c6 : x1 = 1
    · replace hf := zo_t c6 hf
      refine W.eq (g2 := F0 m 22 ls (.int 1 :: [])) (by rw [c6] <;> rfl) ?_
      refine lv_tableIn (off := 59) (tgt := 81) hx hb zd_X10_status_22 (by decide) (by decide) (by decide) (by decide) ?_
      refine zl_aload_n hx hb zd_X10_status_81 rfl (lv_at hl 0 rfl) ?_
      replace hf := zo_b hf; obtain ⟨v7, ev7, hf⟩ := hf
      obtain ⟨u8, u8e, u8v⟩ := zo_b ev7
      obtain rfl := zv_i_e u8v
      refine zw_get S hK hw zk_10 (k := 5) (by decide) rfl zm_1093 (Or.inl rfl) u8e zd_X10_status_82 ?_
      have hres := Option.some.inj hf; subst hres
      exact zw_iret (v := v7) (ty := .int) hx hb hr hlk rfl hw zd_X10_status_85 (Nat.le_refl 0) (Nat.le_refl 0)
    replace hf := zo_f c6 hf
    by_cases c9 : x1 = 2
    · replace hf := zo_t c9 hf
      refine W.eq (g2 := F0 m 22 ls (.int 2 :: [])) (by rw [c9] <;> rfl) ?_
      refine lv_tableIn (off := 64) (tgt := 86) hx hb zd_X10_status_22 (by decide) (by decide) (by decide) (by decide) ?_
      refine zl_aload_n hx hb zd_X10_status_86 rfl (lv_at hl 0 rfl) ?_
      replace hf := zo_b hf; obtain ⟨r10, er10, hf⟩ := hf
      refine zw_callV (n := 0) (ci := 10) (q := zc_cl[10]) (As := []) (rest := []) S hK hw (zt_X10_settled l g h q _ er10) zm_1534 zm_1536 zm_65 zq_X10_settled zm_79 (by decide +kernel) ⟨Nat.le_of_ble_eq_true rfl, Nat.le_of_ble_eq_true rfl⟩ rfl rfl rfl (zi_X10_settled er10) hl.1 rfl (by simp [zv_cat, zv_ci, zv_cj]) zd_X10_status_87 ⟨(Nat.le_refl 0), (Nat.le_refl 0)⟩ (fun H locs hw => ?_)
      replace hw : zc_W g h H locs := hw
      have hres := Option.some.inj hf; subst hres
      exact zw_iret (v := r10) (ty := .int) hx hb hr hlk rfl hw zd_X10_status_90 (Nat.le_refl 0) (Nat.le_refl 0)
    replace hf := zo_f c9 hf
    by_cases c11 : x1 = 3
    · replace hf := zo_t c11 hf
      refine W.eq (g2 := F0 m 22 ls (.int 3 :: [])) (by rw [c11] <;> rfl) ?_
      refine lv_tableIn (off := 69) (tgt := 91) hx hb zd_X10_status_22 (by decide) (by decide) (by decide) (by decide) ?_
      refine zl_aload_n hx hb zd_X10_status_91 rfl (lv_at hl 0 rfl) ?_
      replace hf := zo_b hf; obtain ⟨r12, er12, hf⟩ := hf
      refine zw_callV (n := 0) (ci := 10) (q := zc_cl[10]) (As := []) (rest := []) S hK hw (zt_X10_openOnes l g h q _ er12) zm_1538 zm_1540 zm_66 zq_X10_openOnes zm_79 (by decide +kernel) ⟨Nat.le_of_ble_eq_true rfl, Nat.le_of_ble_eq_true rfl⟩ rfl rfl rfl (zi_X10_openOnes er12) hl.1 rfl (by simp [zv_cat, zv_ci, zv_cj]) zd_X10_status_92 ⟨(Nat.le_refl 0), (Nat.le_refl 0)⟩ (fun H locs hw => ?_)
      replace hw : zc_W g h H locs := hw
      have hres := Option.some.inj hf; subst hres
      exact zw_iret (v := r12) (ty := .int) hx hb hr hlk rfl hw zd_X10_status_95 (Nat.le_refl 0) (Nat.le_refl 0)
    replace hf := zo_f c11 hf
    by_cases c13 : x1 = 4
    · replace hf := zo_t c13 hf
      refine W.eq (g2 := F0 m 22 ls (.int 4 :: [])) (by rw [c13] <;> rfl) ?_
      refine lv_tableIn (off := 74) (tgt := 96) hx hb zd_X10_status_22 (by decide) (by decide) (by decide) (by decide) ?_
      refine zl_aload_n hx hb zd_X10_status_96 rfl (lv_at hl 0 rfl) ?_
      replace hf := zo_b hf; obtain ⟨v14, ev14, hf⟩ := hf
      obtain ⟨u15, u15e, u15v⟩ := zo_b ev14
      obtain rfl := zv_r_e u15v
      refine zw_get S hK hw zk_10 (k := 7) (by decide) rfl zm_1095 (Or.inl rfl) u15e zd_X10_status_97 ?_
      refine lv_iconst (v := 0) hx hb zd_X10_status_100 (by decide) ?_
      replace hf := zo_b hf; obtain ⟨a16, na16, hf⟩ := hf
      refine W.eq (g2 := F0 m 101 ls [.int (0), va_rf ((some a16))]) (by rw [na16] <;> rfl) ?_
      replace hf := zo_b hf; obtain ⟨v17, ev17, hf⟩ := hf
      refine zw_iald S hK hw ev17 zd_X10_status_101 ?_
      have hres := Option.some.inj hf; subst hres
      exact zw_iret (v := v17) (ty := .int) hx hb hr hlk rfl hw zd_X10_status_102 (Nat.le_refl 0) (Nat.le_refl 0)
    replace hf := zo_f c13 hf
    by_cases c18 : x1 = 5
    · replace hf := zo_t c18 hf
      refine W.eq (g2 := F0 m 22 ls (.int 5 :: [])) (by rw [c18] <;> rfl) ?_
      refine lv_tableIn (off := 81) (tgt := 103) hx hb zd_X10_status_22 (by decide) (by decide) (by decide) (by decide) ?_
      refine zl_aload_n hx hb zd_X10_status_103 rfl (lv_at hl 0 rfl) ?_
      replace hf := zo_b hf; obtain ⟨v19, ev19, hf⟩ := hf
      obtain ⟨u20, u20e, u20v⟩ := zo_b ev19
      obtain rfl := zv_r_e u20v
      refine zw_get S hK hw zk_10 (k := 7) (by decide) rfl zm_1095 (Or.inl rfl) u20e zd_X10_status_104 ?_
      refine lv_iconst (v := 1) hx hb zd_X10_status_107 (by decide) ?_
      replace hf := zo_b hf; obtain ⟨a21, na21, hf⟩ := hf
      refine W.eq (g2 := F0 m 108 ls [.int (1), va_rf ((some a21))]) (by rw [na21] <;> rfl) ?_
      replace hf := zo_b hf; obtain ⟨v22, ev22, hf⟩ := hf
      refine zw_iald S hK hw ev22 zd_X10_status_108 ?_
      have hres := Option.some.inj hf; subst hres
      exact zw_iret (v := v22) (ty := .int) hx hb hr hlk rfl hw zd_X10_status_109 (Nat.le_refl 0) (Nat.le_refl 0)
    replace hf := zo_f c18 hf
    by_cases c23 : x1 = 6
    · replace hf := zo_t c23 hf
      refine W.eq (g2 := F0 m 22 ls (.int 6 :: [])) (by rw [c23] <;> rfl) ?_
      refine lv_tableIn (off := 88) (tgt := 110) hx hb zd_X10_status_22 (by decide) (by decide) (by decide) (by decide) ?_
      refine zl_aload_n hx hb zd_X10_status_110 rfl (lv_at hl 0 rfl) ?_
      replace hf := zo_b hf; obtain ⟨v24, ev24, hf⟩ := hf
      obtain ⟨u25, u25e, u25v⟩ := zo_b ev24
      obtain rfl := zv_r_e u25v
      refine zw_get S hK hw zk_10 (k := 7) (by decide) rfl zm_1095 (Or.inl rfl) u25e zd_X10_status_111 ?_
      refine lv_iconst (v := 2) hx hb zd_X10_status_114 (by decide) ?_
      replace hf := zo_b hf; obtain ⟨a26, na26, hf⟩ := hf
      refine W.eq (g2 := F0 m 115 ls [.int (2), va_rf ((some a26))]) (by rw [na26] <;> rfl) ?_
      replace hf := zo_b hf; obtain ⟨v27, ev27, hf⟩ := hf
      refine zw_iald S hK hw ev27 zd_X10_status_115 ?_
      have hres := Option.some.inj hf; subst hres
      exact zw_iret (v := v27) (ty := .int) hx hb hr hlk rfl hw zd_X10_status_116 (Nat.le_refl 0) (Nat.le_refl 0)
    replace hf := zo_f c23 hf
    by_cases c28 : x1 = 7
    · replace hf := zo_t c28 hf
      refine W.eq (g2 := F0 m 22 ls (.int 7 :: [])) (by rw [c28] <;> rfl) ?_
      refine lv_tableIn (off := 95) (tgt := 117) hx hb zd_X10_status_22 (by decide) (by decide) (by decide) (by decide) ?_
      refine zl_aload_n hx hb zd_X10_status_117 rfl (lv_at hl 0 rfl) ?_
      replace hf := zo_b hf; obtain ⟨v29, ev29, hf⟩ := hf
      obtain ⟨u30, u30e, u30v⟩ := zo_b ev29
      obtain rfl := zv_i_e u30v
      refine zw_get S hK hw zk_10 (k := 8) (by decide) rfl zm_1096 (Or.inl rfl) u30e zd_X10_status_118 ?_
      have hres := Option.some.inj hf; subst hres
      exact zw_iret (v := v29) (ty := .int) hx hb hr hlk rfl hw zd_X10_status_121 (Nat.le_refl 0) (Nat.le_refl 0)
    replace hf := zo_f c28 hf
    by_cases c31 : x1 = 8
    · replace hf := zo_t c31 hf
      refine W.eq (g2 := F0 m 22 ls (.int 8 :: [])) (by rw [c31] <;> rfl) ?_
      refine lv_tableIn (off := 100) (tgt := 122) hx hb zd_X10_status_22 (by decide) (by decide) (by decide) (by decide) ?_
      refine zl_aload_n hx hb zd_X10_status_122 rfl (lv_at hl 0 rfl) ?_
      replace hf := zo_b hf; obtain ⟨v32, ev32, hf⟩ := hf
      obtain ⟨u33, u33e, u33v⟩ := zo_b ev32
      obtain rfl := zv_i_e u33v
      refine zw_get S hK hw zk_10 (k := 0) (by decide) rfl zm_1088 (Or.inl rfl) u33e zd_X10_status_123 ?_
      refine lv_if_ne (tgt := 133) hx hb zd_X10_status_126 (by decide) (fun c34 => ?_) (fun c34 => ?_)
      · replace hf := zo_f c34 hf
        refine zl_aload_n hx hb zd_X10_status_133 rfl (lv_at hl 0 rfl) ?_
        replace hf := zo_b hf; obtain ⟨v35, ev35, hf⟩ := hf
        obtain ⟨u36, u36e, u36v⟩ := zo_b ev35
        obtain rfl := zv_r_e u36v
        refine zw_get S hK hw zk_10 (k := 2) (by decide) rfl zm_1090 (Or.inl rfl) u36e zd_X10_status_134 ?_
        refine zl_aload_n hx hb zd_X10_status_137 rfl (lv_at hl 0 rfl) ?_
        replace hf := zo_b hf; obtain ⟨v37, ev37, hf⟩ := hf
        obtain ⟨u38, u38e, u38v⟩ := zo_b ev37
        obtain rfl := zv_i_e u38v
        refine zw_get S hK hw zk_10 (k := 0) (by decide) rfl zm_1088 (Or.inl rfl) u38e zd_X10_status_138 ?_
        refine lv_iconst (v := 1) hx hb zd_X10_status_141 (by decide) ?_
        refine lv_isub hx hb zd_X10_status_142 ?_
        replace hf := zo_b hf; obtain ⟨a39, na39, hf⟩ := hf
        refine W.eq (g2 := F0 m 143 ls [.int ((v37 - 1)), va_rf ((some a39))]) (by rw [na39] <;> rfl) ?_
        replace hf := zo_b hf; obtain ⟨v40, ev40, hf⟩ := hf
        refine zw_iald S hK hw ev40 zd_X10_status_143 ?_
        have hres := Option.some.inj hf; subst hres
        exact zw_iret (v := v40) (ty := .int) hx hb hr hlk rfl hw zd_X10_status_144 (Nat.le_refl 0) (Nat.le_refl 0)
      · replace hf := zo_t c34 hf
        refine lv_iconst (v := 0) hx hb zd_X10_status_129 (by decide) ?_
        refine lv_goto (tgt := 144) hx hb zd_X10_status_130 (by decide) ?_
        have hres := Option.some.inj hf; subst hres
        exact zw_iret (v := 0) (ty := .int) hx hb hr hlk rfl hw zd_X10_status_144 (Nat.le_refl 0) (Nat.le_refl 0)
    replace hf := zo_f c31 hf
    by_cases c41 : x1 = 9
    · replace hf := zo_t c41 hf
      refine W.eq (g2 := F0 m 22 ls (.int 9 :: [])) (by rw [c41] <;> rfl) ?_
      refine lv_tableIn (off := 123) (tgt := 145) hx hb zd_X10_status_22 (by decide) (by decide) (by decide) (by decide) ?_
      refine zl_aload_n hx hb zd_X10_status_145 rfl (lv_at hl 0 rfl) ?_
      replace hf := zo_b hf; obtain ⟨v42, ev42, hf⟩ := hf
      obtain ⟨u43, u43e, u43v⟩ := zo_b ev42
      obtain rfl := zv_i_e u43v
      refine zw_get S hK hw zk_10 (k := 13) (by decide) rfl zm_1101 (Or.inl rfl) u43e zd_X10_status_146 ?_
      have hres := Option.some.inj hf; subst hres
      exact zw_iret (v := v42) (ty := .int) hx hb hr hlk rfl hw zd_X10_status_149 (Nat.le_refl 0) (Nat.le_refl 0)
    replace hf := zo_f c41 hf
    have zc3 : (x1 : Int32).toInt ≠ 0 := fun h => c3 (Int32.toInt_inj.mp (h.trans (by decide)))
    have zc6 : (x1 : Int32).toInt ≠ 1 := fun h => c6 (Int32.toInt_inj.mp (h.trans (by decide)))
    have zc9 : (x1 : Int32).toInt ≠ 2 := fun h => c9 (Int32.toInt_inj.mp (h.trans (by decide)))
    have zc11 : (x1 : Int32).toInt ≠ 3 := fun h => c11 (Int32.toInt_inj.mp (h.trans (by decide)))
    have zc13 : (x1 : Int32).toInt ≠ 4 := fun h => c13 (Int32.toInt_inj.mp (h.trans (by decide)))
    have zc18 : (x1 : Int32).toInt ≠ 5 := fun h => c18 (Int32.toInt_inj.mp (h.trans (by decide)))
    have zc23 : (x1 : Int32).toInt ≠ 6 := fun h => c23 (Int32.toInt_inj.mp (h.trans (by decide)))
    have zc28 : (x1 : Int32).toInt ≠ 7 := fun h => c28 (Int32.toInt_inj.mp (h.trans (by decide)))
    have zc31 : (x1 : Int32).toInt ≠ 8 := fun h => c31 (Int32.toInt_inj.mp (h.trans (by decide)))
    have zc41 : (x1 : Int32).toInt ≠ 9 := fun h => c41 (Int32.toInt_inj.mp (h.trans (by decide)))
    refine lv_tableOut (tgt := 150) hx hb zd_X10_status_22 (by omega) (by decide) ?_
    refine lv_iconst (v := (-1)) hx hb zd_X10_status_150 (by decide) ?_
    have hres := Option.some.inj hf; subst hres
    exact zw_iret (v := (-1)) (ty := .int) hx hb hr hlk rfl hw zd_X10_status_151 (Nat.le_refl 0) (Nat.le_refl 0)
  · replace hf := zo_f c2 hf
    refine zl_aload_n hx hb zd_X10_status_11 rfl (lv_at hl 0 rfl) ?_
    replace hf := zo_b hf; obtain ⟨v44, ev44, hf⟩ := hf
    obtain ⟨u45, u45e, u45v⟩ := zo_b ev44
    obtain rfl := zv_r_e u45v
    refine zw_get S hK hw zk_10 (k := 15) (by decide) rfl zm_1103 (Or.inl rfl) u45e zd_X10_status_12 ?_
    refine lv_iload_n hx hb zd_X10_status_15 rfl (lv_at hl 1 rfl) ?_
    refine lv_bipush (v := 10) hx hb zd_X10_status_16 (by decide) ?_
    refine lv_isub hx hb zd_X10_status_18 ?_
    replace hf := zo_b hf; obtain ⟨a46, na46, hf⟩ := hf
    refine W.eq (g2 := F0 m 19 ls [.int ((x1 - 10)), va_rf ((some a46))]) (by rw [na46] <;> rfl) ?_
    replace hf := zo_b hf; obtain ⟨v47, ev47, hf⟩ := hf
    refine zw_iald S hK hw ev47 zd_X10_status_19 ?_
    have hres := Option.some.inj hf; subst hres
    exact zw_iret (v := v47) (ty := .int) hx hb hr hlk rfl hw zd_X10_status_20 (Nat.le_refl 0) (Nat.le_refl 0)
def zf_X0_init (h : zc_H) (q : Nat) : Option (zc_H) :=
  if ¬ zf_is h q 0 = true then none else
  (some (zf_new h (.inl (1, 24, .inr (.inl (fun _ => 0)))))).bind fun h1 =>
  (zf_p h1 q 0 0 (va_rf ((some h.2.1)))).bind fun h2 =>
  some h2
abbrev zr_X0_init : Room := { frames := 1, cells := 1, slots := 24, locals := 40 }
theorem zi_X0_init {h : zc_H} {q : Nat} {res : zc_H} (hf : zf_X0_init h q = some res) : zf_is h q 0 = true := Decidable.not_not.mp (zo_n hf).1
set_option maxHeartbeats 4000000 in
set_option maxRecDepth 20000 in
theorem zt_X0_init (l : Launch) (g : zc_G) (h : zc_H) (q : Nat) (res : zc_H) (hf : zf_X0_init h q = some res) : zc_M l g yX0_init cX0_init 1 none zr_X0_init h [va_rf ((some q))] res none := by
  refine zc_M.of (by decide) (by simp [lg_sl, zv_cat, zv_ci, zv_cj]) ?_
  intro p e s m below meth c ls S hK hw hr hlk hnm hl
  replace S : CallFix p m c cX0_init 1 s [va_rf ((some q))].toArray (zc_ws yX0_init cX0_init 1 none) RX0 := S
  have hx := S.1
  have hb := S.2.1
  replace hl : lv_has ls 1 [(0, va_rf ((some q)))] := by simpa [lv_args, zv_cat, zv_ci, zv_cj] using hl
  generalize s.heap = H at hw ⊢
  obtain ⟨locs, hlocs⟩ : ∃ L : List Loc, L = [] := ⟨_, rfl⟩
  rw [← hlocs] at hw ⊢
  unfold zf_X0_init at hf
  obtain ⟨-, hf⟩ := zo_n hf
  refine zl_aload_n hx hb zd_X0_init_0 rfl (lv_at hl 0 rfl) ?_
  refine W.objInit hx hb S.2.2.2.1 (S.2.2.2.2 _ (List.mem_cons_of_mem _ zm_166)) (S.2.2.2.2 _ (List.mem_cons_of_mem _ zm_95)) (S.2.2.2.2 _ (List.mem_cons_of_mem _ zm_96)) rfl (by rw [S.2.2.1]; exact hl.1) rfl zd_X0_init_1 (Nat.le_of_ble_eq_true rfl) (by simp [F0, JFrame.monitorRoom, zv_cat, zv_ci, zv_cj, zr_X0_init]) ?_
  refine W.eq (g2 := F0 m 4 ls []) rfl ?_
  refine zl_aload_n hx hb zd_X0_init_4 rfl (lv_at hl 0 rfl) ?_
  refine lv_bipush (v := 24) hx hb zd_X0_init_5 (by decide) ?_
  replace hf := zo_b hf; obtain ⟨h1, eh1, hf⟩ := hf
  refine zw_newa (atype := .long) (t := 1) (a0 := (24, .inr (.inl (fun _ => 0)))) (ty := .long) (N := 24) (K := 24) S hK hw zm_176 rfl rfl (Nat.le_of_ble_eq_true rfl) (fun h => h) (fun _ => rfl) (by decide) (by decide) (Nat.le_refl _) (by decide) (by show _ ≤ (1 : Nat); omega) (by show _ ≤ (24 : Nat); omega) zd_X0_init_7 (fun H hw => ?_)
  replace hw : zc_W g h1 H locs := (Option.some.inj eh1) ▸ hw
  replace hf := zo_b hf; obtain ⟨h2, eh2, hf⟩ := hf
  refine zw_putF S hK hw zk_0 (k := 0) (by decide) rfl zm_167 hnm eh2 (ty := (.array .long)) (by decide +kernel) (zv_rnA _ _) (zv_rfA _ _) zd_X0_init_9 (fun H locs hw => ?_)
  have hres := Option.some.inj hf; subst hres
  exact zw_vret hx hb hr hlk hw zd_X0_init_12 (by show _ ≤ (1 : Nat); omega) (by show _ ≤ (24 : Nat); omega)
def zf_X4_count (h : zc_H) (q : Nat) : Option (Int32) :=
  if ¬ zf_is h q 4 = true then none else
  (zf_gr h q 4 2).bind fun v1 =>
  v1.bind fun a3 =>
  (zf_len h a3).bind fun v4 =>
  some v4
abbrev zr_X4_count : Room := { frames := 0, cells := 0, slots := 0, locals := 0 }
theorem zi_X4_count {h : zc_H} {q : Nat} {res : Int32} (hf : zf_X4_count h q = some res) : zf_is h q 4 = true := Decidable.not_not.mp (zo_n hf).1
set_option maxHeartbeats 4000000 in
set_option maxRecDepth 20000 in
theorem zt_X4_count (l : Launch) (g : zc_G) (h : zc_H) (q : Nat) (res : Int32) (hf : zf_X4_count h q = some res) : zc_M l g yX4_count cX4_count 1 (some .int) zr_X4_count h [va_rf ((some q))] h (some (.int (res))) := by
  refine zc_M.of (by decide) (by simp [lg_sl, zv_cat, zv_ci, zv_cj]) ?_
  intro p e s m below meth c ls S hK hw hr hlk hnm hl
  replace S : CallFix p m c cX4_count 1 s [va_rf ((some q))].toArray (zc_ws yX4_count cX4_count 1 (some .int)) RX4 := S
  have hx := S.1
  have hb := S.2.1
  replace hl : lv_has ls 1 [(0, va_rf ((some q)))] := by simpa [lv_args, zv_cat, zv_ci, zv_cj] using hl
  generalize s.heap = H at hw ⊢
  obtain ⟨locs, hlocs⟩ : ∃ L : List Loc, L = [] := ⟨_, rfl⟩
  rw [← hlocs] at hw ⊢
  unfold zf_X4_count at hf
  obtain ⟨-, hf⟩ := zo_n hf
  refine zl_aload_n hx hb zd_X4_count_0 rfl (lv_at hl 0 rfl) ?_
  replace hf := zo_b hf; obtain ⟨v1, ev1, hf⟩ := hf
  obtain ⟨u2, u2e, u2v⟩ := zo_b ev1
  obtain rfl := zv_r_e u2v
  refine zw_get S hK hw zk_4 (k := 2) (by decide) rfl zm_535 (Or.inl rfl) u2e zd_X4_count_1 ?_
  replace hf := zo_b hf; obtain ⟨a3, na3, hf⟩ := hf
  refine W.eq (g2 := F0 m 4 ls [va_rf ((some a3))]) (by rw [na3] <;> rfl) ?_
  replace hf := zo_b hf; obtain ⟨v4, ev4, hf⟩ := hf
  refine zw_alen S hK hw ev4 zd_X4_count_4 ?_
  have hres := Option.some.inj hf; subst hres
  exact zw_iret (v := v4) (ty := .int) hx hb hr hlk rfl hw zd_X4_count_5 (Nat.le_refl 0) (Nat.le_refl 0)
def zf_X4_lineAt (h : zc_H) (q : Nat) (x1 : Int32) : Option (Int64) :=
  if ¬ zf_is h q 4 = true then none else
  if x1 < 0 then
    some 0
  else
  (zf_gr h q 4 2).bind fun v2 =>
  v2.bind fun a4 =>
  (zf_len h a4).bind fun v5 =>
  if v5 ≤ x1 then
    some 0
  else
  (zf_gr h q 4 2).bind fun v7 =>
  v7.bind fun a9 =>
  (zf_aj h a9 x1).bind fun v10 =>
  some v10
abbrev zr_X4_lineAt : Room := { frames := 0, cells := 0, slots := 0, locals := 0 }
theorem zi_X4_lineAt {h : zc_H} {q : Nat} {x1 : Int32} {res : Int64} (hf : zf_X4_lineAt h q x1 = some res) : zf_is h q 4 = true := Decidable.not_not.mp (zo_n hf).1
set_option maxHeartbeats 4000000 in
set_option maxRecDepth 20000 in
theorem zt_X4_lineAt (l : Launch) (g : zc_G) (h : zc_H) (q : Nat) (x1 : Int32) (res : Int64) (hf : zf_X4_lineAt h q x1 = some res) : zc_M l g yX4_lineAt cX4_lineAt 2 (some .long) zr_X4_lineAt h [va_rf ((some q)), .int (x1)] h (some (.long (res))) := by
  refine zc_M.of (by decide) (by simp [lg_sl, zv_cat, zv_ci, zv_cj]) ?_
  intro p e s m below meth c ls S hK hw hr hlk hnm hl
  replace S : CallFix p m c cX4_lineAt 2 s [va_rf ((some q)), .int (x1)].toArray (zc_ws yX4_lineAt cX4_lineAt 2 (some .long)) RX4 := S
  have hx := S.1
  have hb := S.2.1
  replace hl : lv_has ls 2 [(0, va_rf ((some q))), (1, .int (x1))] := by simpa [lv_args, zv_cat, zv_ci, zv_cj] using hl
  generalize s.heap = H at hw ⊢
  obtain ⟨locs, hlocs⟩ : ∃ L : List Loc, L = [] := ⟨_, rfl⟩
  rw [← hlocs] at hw ⊢
  unfold zf_X4_lineAt at hf
  obtain ⟨-, hf⟩ := zo_n hf
  refine lv_iload_n hx hb zd_X4_lineAt_0 rfl (lv_at hl 1 rfl) ?_
  refine lv_if_lt (tgt := 22) hx hb zd_X4_lineAt_1 (by decide) (fun c1 => ?_) (fun c1 => ?_)
  · replace hf := zo_t c1 hf
    refine lv_lconst (v := 0) hx hb zd_X4_lineAt_22 (by decide) ?_
    have hres := Option.some.inj hf; subst hres
    exact zw_lret hx hb hr hlk hw zd_X4_lineAt_23 (Nat.le_refl 0) (Nat.le_refl 0)
  · replace hf := zo_f c1 hf
    refine lv_iload_n hx hb zd_X4_lineAt_4 rfl (lv_at hl 1 rfl) ?_
    refine zl_aload_n hx hb zd_X4_lineAt_5 rfl (lv_at hl 0 rfl) ?_
    replace hf := zo_b hf; obtain ⟨v2, ev2, hf⟩ := hf
    obtain ⟨u3, u3e, u3v⟩ := zo_b ev2
    obtain rfl := zv_r_e u3v
    refine zw_get S hK hw zk_4 (k := 2) (by decide) rfl zm_535 (Or.inl rfl) u3e zd_X4_lineAt_6 ?_
    replace hf := zo_b hf; obtain ⟨a4, na4, hf⟩ := hf
    refine W.eq (g2 := F0 m 9 ls [va_rf ((some a4)), .int (x1)]) (by rw [na4] <;> rfl) ?_
    replace hf := zo_b hf; obtain ⟨v5, ev5, hf⟩ := hf
    refine zw_alen S hK hw ev5 zd_X4_lineAt_9 ?_
    refine lv_icmp_ge (tgt := 22) hx hb zd_X4_lineAt_10 (by decide) (fun c6 => ?_) (fun c6 => ?_)
    · replace hf := zo_t c6 hf
      refine lv_lconst (v := 0) hx hb zd_X4_lineAt_22 (by decide) ?_
      have hres := Option.some.inj hf; subst hres
      exact zw_lret hx hb hr hlk hw zd_X4_lineAt_23 (Nat.le_refl 0) (Nat.le_refl 0)
    · replace hf := zo_f c6 hf
      refine zl_aload_n hx hb zd_X4_lineAt_13 rfl (lv_at hl 0 rfl) ?_
      replace hf := zo_b hf; obtain ⟨v7, ev7, hf⟩ := hf
      obtain ⟨u8, u8e, u8v⟩ := zo_b ev7
      obtain rfl := zv_r_e u8v
      refine zw_get S hK hw zk_4 (k := 2) (by decide) rfl zm_535 (Or.inl rfl) u8e zd_X4_lineAt_14 ?_
      refine lv_iload_n hx hb zd_X4_lineAt_17 rfl (lv_at hl 1 rfl) ?_
      replace hf := zo_b hf; obtain ⟨a9, na9, hf⟩ := hf
      refine W.eq (g2 := F0 m 18 ls [.int (x1), va_rf ((some a9))]) (by rw [na9] <;> rfl) ?_
      replace hf := zo_b hf; obtain ⟨v10, ev10, hf⟩ := hf
      refine zw_lald S hK hw ev10 zd_X4_lineAt_18 ?_
      refine lv_goto (tgt := 23) hx hb zd_X4_lineAt_19 (by decide) ?_
      have hres := Option.some.inj hf; subst hres
      exact zw_lret hx hb hr hlk hw zd_X4_lineAt_23 (Nat.le_refl 0) (Nat.le_refl 0)
def zf_X0_insert_L31 (q : Nat) (y1 : Int32) (y2 : Int64) : Nat → zc_H → Int32 → Option (zc_H)
  | 0, _, _ => none
  | n + 1, h, y4 =>
    if y4 ≤ y1 then
      some h
    else
    (zf_gr h q 0 0).bind fun v15 =>
    (zf_gr h q 0 0).bind fun v17 =>
    v17.bind fun a19 =>
    (zf_aj h a19 (y4 - 1)).bind fun v20 =>
    v15.bind fun a21 =>
    (zf_sj h a21 y4 v20).bind fun h22 =>
    zf_X0_insert_L31 q y1 y2 n h22 (y4 + (-1))
def zf_X0_insert (h : zc_H) (q : Nat) (x1 : Int32) (x2 : Int64) : Option (zc_H) :=
  if ¬ zf_is h q 0 = true then none else
  (zf_gi h q 0 1).bind fun v1 =>
  (zf_gr h q 0 0).bind fun v3 =>
  v3.bind fun a5 =>
  (zf_len h a5).bind fun v6 =>
  if v6 ≤ v1 then
    some h
  else
  if x1 < 0 then
    some h
  else
  (zf_gi h q 0 1).bind fun v9 =>
  if x1 ≤ v9 then
    (zf_gi h q 0 1).bind fun v12 =>
    (zf_X0_insert_L31 q x1 x2 2000 h v12).bind fun w23 =>
    (zf_gr w23 q 0 0).bind fun v24 =>
    v24.bind fun a26 =>
    (zf_sj w23 a26 x1 x2).bind fun h27 =>
    (zf_gi h27 q 0 1).bind fun v28 =>
    (zf_p h27 q 0 1 (.int ((v28 + 1)))).bind fun h30 =>
    some h30
  else
  some h
abbrev zr_X0_insert : Room := { frames := 0, cells := 0, slots := 0, locals := 0 }
theorem zi_X0_insert {h : zc_H} {q : Nat} {x1 : Int32} {x2 : Int64} {res : zc_H} (hf : zf_X0_insert h q x1 x2 = some res) : zf_is h q 0 = true := Decidable.not_not.mp (zo_n hf).1
set_option maxHeartbeats 4000000 in
set_option maxRecDepth 20000 in
theorem zt_X0_insert (l : Launch) (g : zc_G) (h : zc_H) (q : Nat) (x1 : Int32) (x2 : Int64) (res : zc_H) (hf : zf_X0_insert h q x1 x2 = some res) : zc_M l g yX0_insert cX0_insert 5 none zr_X0_insert h [va_rf ((some q)), .int (x1), .long (x2)] res none := by
  refine zc_M.of (by decide) (by simp [lg_sl, zv_cat, zv_ci, zv_cj]) ?_
  intro p e s m below meth c ls S hK hw hr hlk hnm hl
  replace S : CallFix p m c cX0_insert 5 s [va_rf ((some q)), .int (x1), .long (x2)].toArray (zc_ws yX0_insert cX0_insert 5 none) RX0 := S
  have hx := S.1
  have hb := S.2.1
  replace hl : lv_has ls 5 [(0, va_rf ((some q))), (1, .int (x1)), (2, .long (x2))] := by simpa [lv_args, zv_cat, zv_ci, zv_cj] using hl
  generalize s.heap = H at hw ⊢
  obtain ⟨locs, hlocs⟩ : ∃ L : List Loc, L = [] := ⟨_, rfl⟩
  rw [← hlocs] at hw ⊢
  have L31 : ∀ (y1 : Int32) (y2 : Int64) (n : Nat) (h : zc_H) (y4 : Int32) (w : zc_H) (H : Heap) (locs : List Loc) (ls : Array Slot), zf_X0_insert_L31 q y1 y2 n h y4 = some w → zc_W g h H locs → lv_has ls 5 [(0, va_rf ((some q))), (1, .int (y1)), (2, .long (y2)), (4, .int (y4))] → (∀ (H : Heap) (locs : List Loc) (ls : Array Slot), zc_W g w H locs → lv_has ls 5 [(0, va_rf ((some q))), (1, .int (y1)), (2, .long (y2))] → W p l e zr_X0_insert s m [va_rf ((some q)), .int (x1), .long (x2)].toArray below meth c H locs 0 0 (zc_Q g below zr_X0_insert none res [va_rf ((some q)), .int (x1), .long (x2)] s) (F0 m 59 ls [])) → W p l e zr_X0_insert s m [va_rf ((some q)), .int (x1), .long (x2)].toArray below meth c H locs 0 0 (zc_Q g below zr_X0_insert none res [va_rf ((some q)), .int (x1), .long (x2)] s) (F0 m 31 ls []) := by
    intro y1 y2 n
    induction n with
    | zero =>
      intro h y4 w H locs ls hf
      cases hf
    | succ n ih =>
      intro h y4 w H locs ls hf hw hl  kk
      unfold zf_X0_insert_L31 at hf
      refine lv_iload hx hb zd_X0_insert_31 (lv_at hl 3 rfl) ?_
      refine lv_iload_n hx hb zd_X0_insert_33 rfl (lv_at hl 1 rfl) ?_
      refine lv_icmp_le (tgt := 59) hx hb zd_X0_insert_34 (by decide) (fun c14 => ?_) (fun c14 => ?_)
      · replace hf := zo_t c14 hf
        have hres := Option.some.inj hf; subst hres
        exact kk _ _ _ hw (lv_sub hl [0, 1, 2] rfl)
      · replace hf := zo_f c14 hf
        refine zl_aload_n hx hb zd_X0_insert_37 rfl (lv_at hl 0 rfl) ?_
        replace hf := zo_b hf; obtain ⟨v15, ev15, hf⟩ := hf
        obtain ⟨u16, u16e, u16v⟩ := zo_b ev15
        obtain rfl := zv_r_e u16v
        refine zw_get S hK hw zk_0 (k := 0) (by decide) rfl zm_167 (Or.inl rfl) u16e zd_X0_insert_38 ?_
        refine lv_iload hx hb zd_X0_insert_41 (lv_at hl 3 rfl) ?_
        refine zl_aload_n hx hb zd_X0_insert_43 rfl (lv_at hl 0 rfl) ?_
        replace hf := zo_b hf; obtain ⟨v17, ev17, hf⟩ := hf
        obtain ⟨u18, u18e, u18v⟩ := zo_b ev17
        obtain rfl := zv_r_e u18v
        refine zw_get S hK hw zk_0 (k := 0) (by decide) rfl zm_167 (Or.inl rfl) u18e zd_X0_insert_44 ?_
        refine lv_iload hx hb zd_X0_insert_47 (lv_at hl 3 rfl) ?_
        refine lv_iconst (v := 1) hx hb zd_X0_insert_49 (by decide) ?_
        refine lv_isub hx hb zd_X0_insert_50 ?_
        replace hf := zo_b hf; obtain ⟨a19, na19, hf⟩ := hf
        refine W.eq (g2 := F0 m 51 ls [.int ((y4 - 1)), va_rf ((some a19)), .int (y4), va_rf (v15)]) (by rw [na19] <;> rfl) ?_
        replace hf := zo_b hf; obtain ⟨v20, ev20, hf⟩ := hf
        refine zw_lald S hK hw ev20 zd_X0_insert_51 ?_
        replace hf := zo_b hf; obtain ⟨a21, na21, hf⟩ := hf
        refine W.eq (g2 := F0 m 52 ls [.long (v20), .int (y4), va_rf ((some a21))]) (by rw [na21] <;> rfl) ?_
        replace hf := zo_b hf; obtain ⟨h22, eh22, hf⟩ := hf
        refine zw_last S hK hw eh22 zd_X0_insert_52 (fun H locs hw => ?_)
        refine lv_iinc (i := 4) (v := (y4 + (-1))) (lv' := [(4, .int ((y4 + (-1)))), (0, va_rf ((some q))), (1, .int (y1)), (2, .long (y2))]) hx hb zd_X0_insert_53 hl (k := 3) rfl (congrArg (_ + ·) (by decide)) (by decide) rfl (fun ls hl => ?_)
        refine lv_goto (tgt := 31) hx hb zd_X0_insert_56 (by decide) ?_
        exact ih h22 (y4 + (-1)) _ _ _ _ hf hw (lv_sub hl [1, 2, 3, 0] rfl) kk
  unfold zf_X0_insert at hf
  obtain ⟨-, hf⟩ := zo_n hf
  refine zl_aload_n hx hb zd_X0_insert_0 rfl (lv_at hl 0 rfl) ?_
  replace hf := zo_b hf; obtain ⟨v1, ev1, hf⟩ := hf
  obtain ⟨u2, u2e, u2v⟩ := zo_b ev1
  obtain rfl := zv_i_e u2v
  refine zw_get S hK hw zk_0 (k := 1) (by decide) rfl zm_168 (Or.inl rfl) u2e zd_X0_insert_1 ?_
  refine zl_aload_n hx hb zd_X0_insert_4 rfl (lv_at hl 0 rfl) ?_
  replace hf := zo_b hf; obtain ⟨v3, ev3, hf⟩ := hf
  obtain ⟨u4, u4e, u4v⟩ := zo_b ev3
  obtain rfl := zv_r_e u4v
  refine zw_get S hK hw zk_0 (k := 0) (by decide) rfl zm_167 (Or.inl rfl) u4e zd_X0_insert_5 ?_
  replace hf := zo_b hf; obtain ⟨a5, na5, hf⟩ := hf
  refine W.eq (g2 := F0 m 8 ls [va_rf ((some a5)), .int (v1)]) (by rw [na5] <;> rfl) ?_
  replace hf := zo_b hf; obtain ⟨v6, ev6, hf⟩ := hf
  refine zw_alen S hK hw ev6 zd_X0_insert_8 ?_
  refine lv_icmp_ge (tgt := 24) hx hb zd_X0_insert_9 (by decide) (fun c7 => ?_) (fun c7 => ?_)
  · replace hf := zo_t c7 hf
    have hres := Option.some.inj hf; subst hres
    exact zw_vret hx hb hr hlk hw zd_X0_insert_24 (Nat.le_refl 0) (Nat.le_refl 0)
  · replace hf := zo_f c7 hf
    refine lv_iload_n hx hb zd_X0_insert_12 rfl (lv_at hl 1 rfl) ?_
    refine lv_if_lt (tgt := 24) hx hb zd_X0_insert_13 (by decide) (fun c8 => ?_) (fun c8 => ?_)
    · replace hf := zo_t c8 hf
      have hres := Option.some.inj hf; subst hres
      exact zw_vret hx hb hr hlk hw zd_X0_insert_24 (Nat.le_refl 0) (Nat.le_refl 0)
    · replace hf := zo_f c8 hf
      refine lv_iload_n hx hb zd_X0_insert_16 rfl (lv_at hl 1 rfl) ?_
      refine zl_aload_n hx hb zd_X0_insert_17 rfl (lv_at hl 0 rfl) ?_
      replace hf := zo_b hf; obtain ⟨v9, ev9, hf⟩ := hf
      obtain ⟨u10, u10e, u10v⟩ := zo_b ev9
      obtain rfl := zv_i_e u10v
      refine zw_get S hK hw zk_0 (k := 1) (by decide) rfl zm_168 (Or.inl rfl) u10e zd_X0_insert_18 ?_
      refine lv_icmp_le (tgt := 25) hx hb zd_X0_insert_21 (by decide) (fun c11 => ?_) (fun c11 => ?_)
      · replace hf := zo_t c11 hf
        refine zl_aload_n hx hb zd_X0_insert_25 rfl (lv_at hl 0 rfl) ?_
        replace hf := zo_b hf; obtain ⟨v12, ev12, hf⟩ := hf
        obtain ⟨u13, u13e, u13v⟩ := zo_b ev12
        obtain rfl := zv_i_e u13v
        refine zw_get S hK hw zk_0 (k := 1) (by decide) rfl zm_168 (Or.inl rfl) u13e zd_X0_insert_26 ?_
        refine lv_istore (i := 4) (lv' := [(4, .int (v12)), (0, va_rf ((some q))), (1, .int (x1)), (2, .long (x2))]) hx hb zd_X0_insert_29 hl (by decide) rfl (fun ls hl => ?_)
        replace hf := zo_b hf; obtain ⟨w23, w23e, hf⟩ := hf
        refine L31 x1 x2 2000 h v12 _ _ _ _ w23e hw (lv_sub hl [1, 2, 3, 0] rfl) (fun H locs ls hw hl => ?_)
        refine zl_aload_n hx hb zd_X0_insert_59 rfl (lv_at hl 0 rfl) ?_
        replace hf := zo_b hf; obtain ⟨v24, ev24, hf⟩ := hf
        obtain ⟨u25, u25e, u25v⟩ := zo_b ev24
        obtain rfl := zv_r_e u25v
        refine zw_get S hK hw zk_0 (k := 0) (by decide) rfl zm_167 (Or.inl rfl) u25e zd_X0_insert_60 ?_
        refine lv_iload_n hx hb zd_X0_insert_63 rfl (lv_at hl 1 rfl) ?_
        refine lv_lload_n hx hb zd_X0_insert_64 rfl (lv_at hl 2 rfl) ?_
        replace hf := zo_b hf; obtain ⟨a26, na26, hf⟩ := hf
        refine W.eq (g2 := F0 m 65 ls [.long (x2), .int (x1), va_rf ((some a26))]) (by rw [na26] <;> rfl) ?_
        replace hf := zo_b hf; obtain ⟨h27, eh27, hf⟩ := hf
        refine zw_last S hK hw eh27 zd_X0_insert_65 (fun H locs hw => ?_)
        refine zl_aload_n hx hb zd_X0_insert_66 rfl (lv_at hl 0 rfl) ?_
        refine lv_dup hx hb zd_X0_insert_67 rfl ?_
        replace hf := zo_b hf; obtain ⟨v28, ev28, hf⟩ := hf
        obtain ⟨u29, u29e, u29v⟩ := zo_b ev28
        obtain rfl := zv_i_e u29v
        refine zw_get S hK hw zk_0 (k := 1) (by decide) rfl zm_168 (Or.inl rfl) u29e zd_X0_insert_68 ?_
        refine lv_iconst (v := 1) hx hb zd_X0_insert_71 (by decide) ?_
        refine lv_iadd hx hb zd_X0_insert_72 ?_
        replace hf := zo_b hf; obtain ⟨h30, eh30, hf⟩ := hf
        refine zw_put S hK hw zk_0 (k := 1) (by decide) rfl zm_168 (Or.inl rfl) eh30 (ty := .int) (by decide +kernel) rfl rfl zd_X0_insert_73 (fun H locs hw => ?_)
        have hres := Option.some.inj hf; subst hres
        exact zw_vret hx hb hr hlk hw zd_X0_insert_76 (Nat.le_refl 0) (Nat.le_refl 0)
      · replace hf := zo_f c11 hf
        have hres := Option.some.inj hf; subst hres
        exact zw_vret hx hb hr hlk hw zd_X0_insert_24 (Nat.le_refl 0) (Nat.le_refl 0)
def zf_X0_startFrom_L7 (q : Nat) (y1 : Option Nat) : Nat → zc_H → Int32 → Option (zc_H)
  | 0, _, _ => none
  | n + 1, h, y2 =>
    y1.bind fun a2 =>
    (zf_X4_count h a2).bind fun r3 =>
    if r3 ≤ y2 then
      some h
    else
    (zf_gi h q 0 1).bind fun v5 =>
    (zf_X4_lineAt h a2 y2).bind fun r7 =>
    (zf_X0_insert h q v5 r7).bind fun r8 =>
    zf_X0_startFrom_L7 q y1 n r8 (y2 + 1)
def zf_X0_startFrom (h : zc_H) (q : Nat) (x1 : Option Nat) : Option (zc_H) :=
  if ¬ zf_is h q 0 = true then none else
  (zf_p h q 0 1 (.int (0))).bind fun h1 =>
  (zf_X0_startFrom_L7 q x1 2000 h1 0).bind fun w9 =>
  some w9
abbrev zr_X0_startFrom : Room := { frames := 1, cells := 0, slots := 0, locals := 24 }
theorem zi_X0_startFrom {h : zc_H} {q : Nat} {x1 : Option Nat} {res : zc_H} (hf : zf_X0_startFrom h q x1 = some res) : zf_is h q 0 = true := Decidable.not_not.mp (zo_n hf).1
set_option maxHeartbeats 4000000 in
set_option maxRecDepth 20000 in
theorem zt_X0_startFrom (l : Launch) (g : zc_G) (h : zc_H) (q : Nat) (x1 : Option Nat) (res : zc_H) (hf : zf_X0_startFrom h q x1 = some res) : zc_M l g yX0_startFrom cX0_startFrom 3 none zr_X0_startFrom h [va_rf ((some q)), va_rf (x1)] res none := by
  refine zc_M.of (by decide) (by simp [lg_sl, zv_cat, zv_ci, zv_cj]) ?_
  intro p e s m below meth c ls S hK hw hr hlk hnm hl
  replace S : CallFix p m c cX0_startFrom 3 s [va_rf ((some q)), va_rf (x1)].toArray (zc_ws yX0_startFrom cX0_startFrom 3 none) RX0 := S
  have hx := S.1
  have hb := S.2.1
  replace hl : lv_has ls 3 [(0, va_rf ((some q))), (1, va_rf (x1))] := by simpa [lv_args, zv_cat, zv_ci, zv_cj] using hl
  generalize s.heap = H at hw ⊢
  obtain ⟨locs, hlocs⟩ : ∃ L : List Loc, L = [] := ⟨_, rfl⟩
  rw [← hlocs] at hw ⊢
  have L7 : ∀ (y1 : Option Nat) (n : Nat) (h : zc_H) (y2 : Int32) (w : zc_H) (H : Heap) (locs : List Loc) (ls : Array Slot), zf_X0_startFrom_L7 q y1 n h y2 = some w → zc_W g h H locs → lv_has ls 3 [(0, va_rf ((some q))), (1, va_rf (y1)), (2, .int (y2))] → (∀ (H : Heap) (locs : List Loc) (ls : Array Slot), zc_W g w H locs → lv_has ls 3 [] → W p l e zr_X0_startFrom s m [va_rf ((some q)), va_rf (x1)].toArray below meth c H locs 0 0 (zc_Q g below zr_X0_startFrom none res [va_rf ((some q)), va_rf (x1)] s) (F0 m 34 ls [])) → W p l e zr_X0_startFrom s m [va_rf ((some q)), va_rf (x1)].toArray below meth c H locs 0 0 (zc_Q g below zr_X0_startFrom none res [va_rf ((some q)), va_rf (x1)] s) (F0 m 7 ls []) := by
    intro y1 n
    induction n with
    | zero =>
      intro h y2 w H locs ls hf
      cases hf
    | succ n ih =>
      intro h y2 w H locs ls hf hw hl  kk
      unfold zf_X0_startFrom_L7 at hf
      refine lv_iload_n hx hb zd_X0_startFrom_7 rfl (lv_at hl 2 rfl) ?_
      refine zl_aload_n hx hb zd_X0_startFrom_8 rfl (lv_at hl 1 rfl) ?_
      replace hf := zo_b hf; obtain ⟨a2, na2, hf⟩ := hf
      refine W.eq (g2 := F0 m 9 ls [va_rf ((some a2)), .int (y2)]) (by rw [na2] <;> rfl) ?_
      replace hf := zo_b hf; obtain ⟨r3, er3, hf⟩ := hf
      refine zw_callV (n := 0) (ci := 4) (q := zc_cl[4]) (As := []) (rest := [.int (y2)]) S hK hw (zt_X4_count l g h a2 _ er3) zm_980 zm_618 zm_619 zq_X4_count zm_84 (by decide +kernel) ⟨Nat.le_of_ble_eq_true rfl, Nat.le_of_ble_eq_true rfl⟩ rfl rfl rfl (zi_X4_count er3) hl.1 rfl (by simp [zv_cat, zv_ci, zv_cj]) zd_X0_startFrom_9 ⟨(Nat.le_refl 0), (Nat.le_refl 0)⟩ (fun H locs hw => ?_)
      replace hw : zc_W g h H locs := hw
      refine lv_icmp_ge (tgt := 34) hx hb zd_X0_startFrom_12 (by decide) (fun c4 => ?_) (fun c4 => ?_)
      · replace hf := zo_t c4 hf
        have hres := Option.some.inj hf; subst hres
        exact kk _ _ _ hw (lv_sub hl [] rfl)
      · replace hf := zo_f c4 hf
        refine zl_aload_n hx hb zd_X0_startFrom_15 rfl (lv_at hl 0 rfl) ?_
        refine zl_aload_n hx hb zd_X0_startFrom_16 rfl (lv_at hl 0 rfl) ?_
        replace hf := zo_b hf; obtain ⟨v5, ev5, hf⟩ := hf
        obtain ⟨u6, u6e, u6v⟩ := zo_b ev5
        obtain rfl := zv_i_e u6v
        refine zw_get S hK hw zk_0 (k := 1) (by decide) rfl zm_168 (Or.inl rfl) u6e zd_X0_startFrom_17 ?_
        refine zl_aload_n hx hb zd_X0_startFrom_20 rfl (lv_at hl 1 rfl) ?_
        refine lv_iload_n hx hb zd_X0_startFrom_21 rfl (lv_at hl 2 rfl) ?_
        refine W.eq (g2 := F0 m 22 ls [.int (y2), va_rf ((some a2)), .int (v5), va_rf ((some q))]) (by rw [na2] <;> rfl) ?_
        replace hf := zo_b hf; obtain ⟨r7, er7, hf⟩ := hf
        refine zw_callV (n := 1) (ci := 4) (q := zc_cl[4]) (As := [.int (y2)]) (rest := [.int (v5), va_rf ((some q))]) S hK hw (zt_X4_lineAt l g h a2 y2 _ er7) zm_981 zm_622 zm_623 zq_X4_lineAt zm_84 (by decide +kernel) ⟨Nat.le_of_ble_eq_true rfl, Nat.le_of_ble_eq_true rfl⟩ rfl rfl rfl (zi_X4_lineAt er7) hl.1 rfl (by simp [zv_cat, zv_ci, zv_cj]) zd_X0_startFrom_22 ⟨(Nat.le_refl 0), (Nat.le_refl 0)⟩ (fun H locs hw => ?_)
        replace hw : zc_W g h H locs := hw
        replace hf := zo_b hf; obtain ⟨r8, er8, hf⟩ := hf
        refine zw_callV (n := 2) (ci := 0) (q := zc_cl[0]) (As := [.int (v5), .long (r7)]) (rest := []) S hK hw (zt_X0_insert l g h q v5 r7 _ er8) zm_496 zm_497 zm_498 zq_X0_insert zm_73 (by decide +kernel) ⟨Nat.le_of_ble_eq_true rfl, Nat.le_of_ble_eq_true rfl⟩ rfl rfl rfl (zi_X0_insert er8) hl.1 rfl (by simp [zv_cat, zv_ci, zv_cj]) zd_X0_startFrom_25 ⟨(Nat.le_refl 0), (Nat.le_refl 0)⟩ (fun H locs hw => ?_)
        replace hw : zc_W g r8 H locs := hw
        refine lv_iinc (i := 2) (v := (y2 + 1)) (lv' := [(2, .int ((y2 + 1))), (0, va_rf ((some q))), (1, va_rf (y1))]) hx hb zd_X0_startFrom_28 hl (k := 2) rfl (congrArg (_ + ·) (by decide)) (by decide) (by simp [List.filter, zv_cat, zv_ci, zv_cj]) (fun ls hl => ?_)
        refine lv_goto (tgt := 7) hx hb zd_X0_startFrom_31 (by decide) ?_
        exact ih r8 (y2 + 1) _ _ _ _ hf hw (lv_sub hl [1, 2, 0] rfl) kk
  unfold zf_X0_startFrom at hf
  obtain ⟨-, hf⟩ := zo_n hf
  refine zl_aload_n hx hb zd_X0_startFrom_0 rfl (lv_at hl 0 rfl) ?_
  refine lv_iconst (v := 0) hx hb zd_X0_startFrom_1 (by decide) ?_
  replace hf := zo_b hf; obtain ⟨h1, eh1, hf⟩ := hf
  refine zw_put S hK hw zk_0 (k := 1) (by decide) rfl zm_168 (Or.inl rfl) eh1 (ty := .int) (by decide +kernel) rfl rfl zd_X0_startFrom_2 (fun H locs hw => ?_)
  refine lv_iconst (v := 0) hx hb zd_X0_startFrom_5 (by decide) ?_
  refine lv_istore_n (i := 2) (lv' := [(2, .int (0)), (0, va_rf ((some q))), (1, va_rf (x1))]) hx hb zd_X0_startFrom_6 rfl hl (by decide) (by simp [List.filter, zv_cat, zv_ci, zv_cj]) (fun ls hl => ?_)
  replace hf := zo_b hf; obtain ⟨w9, w9e, hf⟩ := hf
  refine L7 x1 2000 h1 0 _ _ _ _ w9e hw (lv_sub hl [1, 2, 0] rfl) (fun H locs ls hw hl => ?_)
  have hres := Option.some.inj hf; subst hres
  exact zw_vret hx hb hr hlk hw zd_X0_startFrom_34 (Nat.le_refl 0) (Nat.le_refl 0)
def zf_X0_remove_L46 (q : Nat) (y2 : Int64) : Nat → zc_H → Int32 → Option (zc_H)
  | 0, _, _ => none
  | n + 1, h, y4 =>
    (zf_gi h q 0 1).bind fun v19 =>
    if v19 ≤ y4 then
      some h
    else
    (zf_gr h q 0 0).bind fun v22 =>
    (zf_gr h q 0 0).bind fun v24 =>
    v24.bind fun a26 =>
    (zf_aj h a26 (y4 + 1)).bind fun v27 =>
    v22.bind fun a28 =>
    (zf_sj h a28 y4 v27).bind fun h29 =>
    zf_X0_remove_L46 q y2 n h29 (y4 + 1)
def zf_X0_remove (h : zc_H) (q : Nat) (x1 : Int32) : Option (zc_H × Int64) :=
  if ¬ zf_is h q 0 = true then none else
  if x1 < 0 then
    some (h, 0)
  else
  (zf_gi h q 0 1).bind fun v2 =>
  if v2 ≤ x1 then
    some (h, 0)
  else
  (zf_gi h q 0 1).bind fun v5 =>
  (zf_gr h q 0 0).bind fun v7 =>
  v7.bind fun a9 =>
  (zf_len h a9).bind fun v10 =>
  if v5 ≤ v10 then
    (zf_gr h q 0 0).bind fun v12 =>
    v12.bind fun a14 =>
    (zf_aj h a14 x1).bind fun v15 =>
    (zf_gi h q 0 1).bind fun v16 =>
    (zf_p h q 0 1 (.int ((v16 - 1)))).bind fun h18 =>
    (zf_X0_remove_L46 q v15 2000 h18 x1).bind fun w30 =>
    some (w30, v15)
  else
  some (h, 0)
abbrev zr_X0_remove : Room := { frames := 0, cells := 0, slots := 0, locals := 0 }
theorem zi_X0_remove {h : zc_H} {q : Nat} {x1 : Int32} {res : zc_H × Int64} (hf : zf_X0_remove h q x1 = some res) : zf_is h q 0 = true := Decidable.not_not.mp (zo_n hf).1
set_option maxHeartbeats 4000000 in
set_option maxRecDepth 20000 in
theorem zt_X0_remove (l : Launch) (g : zc_G) (h : zc_H) (q : Nat) (x1 : Int32) (res : zc_H × Int64) (hf : zf_X0_remove h q x1 = some res) : zc_M l g yX0_remove cX0_remove 5 (some .long) zr_X0_remove h [va_rf ((some q)), .int (x1)] res.1 (some (.long (res.2))) := by
  refine zc_M.of (by decide) (by simp [lg_sl, zv_cat, zv_ci, zv_cj]) ?_
  intro p e s m below meth c ls S hK hw hr hlk hnm hl
  replace S : CallFix p m c cX0_remove 5 s [va_rf ((some q)), .int (x1)].toArray (zc_ws yX0_remove cX0_remove 5 (some .long)) RX0 := S
  have hx := S.1
  have hb := S.2.1
  replace hl : lv_has ls 5 [(0, va_rf ((some q))), (1, .int (x1))] := by simpa [lv_args, zv_cat, zv_ci, zv_cj] using hl
  generalize s.heap = H at hw ⊢
  obtain ⟨locs, hlocs⟩ : ∃ L : List Loc, L = [] := ⟨_, rfl⟩
  rw [← hlocs] at hw ⊢
  have L46 : ∀ (y2 : Int64) (n : Nat) (h : zc_H) (y4 : Int32) (w : zc_H) (H : Heap) (locs : List Loc) (ls : Array Slot), zf_X0_remove_L46 q y2 n h y4 = some w → zc_W g h H locs → lv_has ls 5 [(0, va_rf ((some q))), (2, .long (y2)), (4, .int (y4))] → (∀ (H : Heap) (locs : List Loc) (ls : Array Slot), zc_W g w H locs → lv_has ls 5 [(2, .long (y2))] → W p l e zr_X0_remove s m [va_rf ((some q)), .int (x1)].toArray below meth c H locs 0 0 (zc_Q g below zr_X0_remove (some (.long (res.2))) res.1 [va_rf ((some q)), .int (x1)] s) (F0 m 77 ls [])) → W p l e zr_X0_remove s m [va_rf ((some q)), .int (x1)].toArray below meth c H locs 0 0 (zc_Q g below zr_X0_remove (some (.long (res.2))) res.1 [va_rf ((some q)), .int (x1)] s) (F0 m 46 ls []) := by
    intro y2 n
    induction n with
    | zero =>
      intro h y4 w H locs ls hf
      cases hf
    | succ n ih =>
      intro h y4 w H locs ls hf hw hl  kk
      unfold zf_X0_remove_L46 at hf
      refine lv_iload hx hb zd_X0_remove_46 (lv_at hl 2 rfl) ?_
      refine zl_aload_n hx hb zd_X0_remove_48 rfl (lv_at hl 0 rfl) ?_
      replace hf := zo_b hf; obtain ⟨v19, ev19, hf⟩ := hf
      obtain ⟨u20, u20e, u20v⟩ := zo_b ev19
      obtain rfl := zv_i_e u20v
      refine zw_get S hK hw zk_0 (k := 1) (by decide) rfl zm_168 (Or.inl rfl) u20e zd_X0_remove_49 ?_
      refine lv_icmp_ge (tgt := 77) hx hb zd_X0_remove_52 (by decide) (fun c21 => ?_) (fun c21 => ?_)
      · replace hf := zo_t c21 hf
        have hres := Option.some.inj hf; subst hres
        exact kk _ _ _ hw (lv_sub hl [1] rfl)
      · replace hf := zo_f c21 hf
        refine zl_aload_n hx hb zd_X0_remove_55 rfl (lv_at hl 0 rfl) ?_
        replace hf := zo_b hf; obtain ⟨v22, ev22, hf⟩ := hf
        obtain ⟨u23, u23e, u23v⟩ := zo_b ev22
        obtain rfl := zv_r_e u23v
        refine zw_get S hK hw zk_0 (k := 0) (by decide) rfl zm_167 (Or.inl rfl) u23e zd_X0_remove_56 ?_
        refine lv_iload hx hb zd_X0_remove_59 (lv_at hl 2 rfl) ?_
        refine zl_aload_n hx hb zd_X0_remove_61 rfl (lv_at hl 0 rfl) ?_
        replace hf := zo_b hf; obtain ⟨v24, ev24, hf⟩ := hf
        obtain ⟨u25, u25e, u25v⟩ := zo_b ev24
        obtain rfl := zv_r_e u25v
        refine zw_get S hK hw zk_0 (k := 0) (by decide) rfl zm_167 (Or.inl rfl) u25e zd_X0_remove_62 ?_
        refine lv_iload hx hb zd_X0_remove_65 (lv_at hl 2 rfl) ?_
        refine lv_iconst (v := 1) hx hb zd_X0_remove_67 (by decide) ?_
        refine lv_iadd hx hb zd_X0_remove_68 ?_
        replace hf := zo_b hf; obtain ⟨a26, na26, hf⟩ := hf
        refine W.eq (g2 := F0 m 69 ls [.int ((y4 + 1)), va_rf ((some a26)), .int (y4), va_rf (v22)]) (by rw [na26] <;> rfl) ?_
        replace hf := zo_b hf; obtain ⟨v27, ev27, hf⟩ := hf
        refine zw_lald S hK hw ev27 zd_X0_remove_69 ?_
        replace hf := zo_b hf; obtain ⟨a28, na28, hf⟩ := hf
        refine W.eq (g2 := F0 m 70 ls [.long (v27), .int (y4), va_rf ((some a28))]) (by rw [na28] <;> rfl) ?_
        replace hf := zo_b hf; obtain ⟨h29, eh29, hf⟩ := hf
        refine zw_last S hK hw eh29 zd_X0_remove_70 (fun H locs hw => ?_)
        refine lv_iinc (i := 4) (v := (y4 + 1)) (lv' := [(4, .int ((y4 + 1))), (0, va_rf ((some q))), (2, .long (y2))]) hx hb zd_X0_remove_71 hl (k := 2) rfl (congrArg (_ + ·) (by decide)) (by decide) rfl (fun ls hl => ?_)
        refine lv_goto (tgt := 46) hx hb zd_X0_remove_74 (by decide) ?_
        exact ih h29 (y4 + 1) _ _ _ _ hf hw (lv_sub hl [1, 2, 0] rfl) kk
  unfold zf_X0_remove at hf
  obtain ⟨-, hf⟩ := zo_n hf
  refine lv_iload_n hx hb zd_X0_remove_0 rfl (lv_at hl 1 rfl) ?_
  refine lv_if_lt (tgt := 24) hx hb zd_X0_remove_1 (by decide) (fun c1 => ?_) (fun c1 => ?_)
  · replace hf := zo_t c1 hf
    refine lv_lconst (v := 0) hx hb zd_X0_remove_24 (by decide) ?_
    have hres := Option.some.inj hf; subst hres
    exact zw_lret hx hb hr hlk hw zd_X0_remove_25 (Nat.le_refl 0) (Nat.le_refl 0)
  · replace hf := zo_f c1 hf
    refine lv_iload_n hx hb zd_X0_remove_4 rfl (lv_at hl 1 rfl) ?_
    refine zl_aload_n hx hb zd_X0_remove_5 rfl (lv_at hl 0 rfl) ?_
    replace hf := zo_b hf; obtain ⟨v2, ev2, hf⟩ := hf
    obtain ⟨u3, u3e, u3v⟩ := zo_b ev2
    obtain rfl := zv_i_e u3v
    refine zw_get S hK hw zk_0 (k := 1) (by decide) rfl zm_168 (Or.inl rfl) u3e zd_X0_remove_6 ?_
    refine lv_icmp_ge (tgt := 24) hx hb zd_X0_remove_9 (by decide) (fun c4 => ?_) (fun c4 => ?_)
    · replace hf := zo_t c4 hf
      refine lv_lconst (v := 0) hx hb zd_X0_remove_24 (by decide) ?_
      have hres := Option.some.inj hf; subst hres
      exact zw_lret hx hb hr hlk hw zd_X0_remove_25 (Nat.le_refl 0) (Nat.le_refl 0)
    · replace hf := zo_f c4 hf
      refine zl_aload_n hx hb zd_X0_remove_12 rfl (lv_at hl 0 rfl) ?_
      replace hf := zo_b hf; obtain ⟨v5, ev5, hf⟩ := hf
      obtain ⟨u6, u6e, u6v⟩ := zo_b ev5
      obtain rfl := zv_i_e u6v
      refine zw_get S hK hw zk_0 (k := 1) (by decide) rfl zm_168 (Or.inl rfl) u6e zd_X0_remove_13 ?_
      refine zl_aload_n hx hb zd_X0_remove_16 rfl (lv_at hl 0 rfl) ?_
      replace hf := zo_b hf; obtain ⟨v7, ev7, hf⟩ := hf
      obtain ⟨u8, u8e, u8v⟩ := zo_b ev7
      obtain rfl := zv_r_e u8v
      refine zw_get S hK hw zk_0 (k := 0) (by decide) rfl zm_167 (Or.inl rfl) u8e zd_X0_remove_17 ?_
      replace hf := zo_b hf; obtain ⟨a9, na9, hf⟩ := hf
      refine W.eq (g2 := F0 m 20 ls [va_rf ((some a9)), .int (v5)]) (by rw [na9] <;> rfl) ?_
      replace hf := zo_b hf; obtain ⟨v10, ev10, hf⟩ := hf
      refine zw_alen S hK hw ev10 zd_X0_remove_20 ?_
      refine lv_icmp_le (tgt := 26) hx hb zd_X0_remove_21 (by decide) (fun c11 => ?_) (fun c11 => ?_)
      · replace hf := zo_t c11 hf
        refine zl_aload_n hx hb zd_X0_remove_26 rfl (lv_at hl 0 rfl) ?_
        replace hf := zo_b hf; obtain ⟨v12, ev12, hf⟩ := hf
        obtain ⟨u13, u13e, u13v⟩ := zo_b ev12
        obtain rfl := zv_r_e u13v
        refine zw_get S hK hw zk_0 (k := 0) (by decide) rfl zm_167 (Or.inl rfl) u13e zd_X0_remove_27 ?_
        refine lv_iload_n hx hb zd_X0_remove_30 rfl (lv_at hl 1 rfl) ?_
        replace hf := zo_b hf; obtain ⟨a14, na14, hf⟩ := hf
        refine W.eq (g2 := F0 m 31 ls [.int (x1), va_rf ((some a14))]) (by rw [na14] <;> rfl) ?_
        replace hf := zo_b hf; obtain ⟨v15, ev15, hf⟩ := hf
        refine zw_lald S hK hw ev15 zd_X0_remove_31 ?_
        refine lv_lstore_n (i := 2) (lv' := [(2, .long (v15)), (0, va_rf ((some q))), (1, .int (x1))]) hx hb zd_X0_remove_32 rfl hl (by decide) rfl (fun ls hl => ?_)
        refine zl_aload_n hx hb zd_X0_remove_33 rfl (lv_at hl 1 rfl) ?_
        refine lv_dup hx hb zd_X0_remove_34 rfl ?_
        replace hf := zo_b hf; obtain ⟨v16, ev16, hf⟩ := hf
        obtain ⟨u17, u17e, u17v⟩ := zo_b ev16
        obtain rfl := zv_i_e u17v
        refine zw_get S hK hw zk_0 (k := 1) (by decide) rfl zm_168 (Or.inl rfl) u17e zd_X0_remove_35 ?_
        refine lv_iconst (v := 1) hx hb zd_X0_remove_38 (by decide) ?_
        refine lv_isub hx hb zd_X0_remove_39 ?_
        replace hf := zo_b hf; obtain ⟨h18, eh18, hf⟩ := hf
        refine zw_put S hK hw zk_0 (k := 1) (by decide) rfl zm_168 (Or.inl rfl) eh18 (ty := .int) (by decide +kernel) rfl rfl zd_X0_remove_40 (fun H locs hw => ?_)
        refine lv_iload_n hx hb zd_X0_remove_43 rfl (lv_at hl 2 rfl) ?_
        refine lv_istore (i := 4) (lv' := [(4, .int (x1)), (2, .long (v15)), (0, va_rf ((some q))), (1, .int (x1))]) hx hb zd_X0_remove_44 hl (by decide) rfl (fun ls hl => ?_)
        replace hf := zo_b hf; obtain ⟨w30, w30e, hf⟩ := hf
        refine L46 v15 2000 h18 x1 _ _ _ _ w30e hw (lv_sub hl [2, 1, 0] rfl) (fun H locs ls hw hl => ?_)
        refine lv_lload_n hx hb zd_X0_remove_77 rfl (lv_at hl 0 rfl) ?_
        have hres := Option.some.inj hf; subst hres
        exact zw_lret hx hb hr hlk hw zd_X0_remove_78 (Nat.le_refl 0) (Nat.le_refl 0)
      · replace hf := zo_f c11 hf
        refine lv_lconst (v := 0) hx hb zd_X0_remove_24 (by decide) ?_
        have hres := Option.some.inj hf; subst hres
        exact zw_lret hx hb hr hlk hw zd_X0_remove_25 (Nat.le_refl 0) (Nat.le_refl 0)
def zf_X5_hasRow (h : zc_H) (q : Nat) : Option (Int32) :=
  if ¬ zf_is h q 5 = true then none else
  (zf_gi h q 5 0).bind fun v1 =>
  if v1 < 100 then
    some 0
  else
  some 1
abbrev zr_X5_hasRow : Room := { frames := 0, cells := 0, slots := 0, locals := 0 }
theorem zi_X5_hasRow {h : zc_H} {q : Nat} {res : Int32} (hf : zf_X5_hasRow h q = some res) : zf_is h q 5 = true := Decidable.not_not.mp (zo_n hf).1
set_option maxHeartbeats 4000000 in
set_option maxRecDepth 20000 in
theorem zt_X5_hasRow (l : Launch) (g : zc_G) (h : zc_H) (q : Nat) (res : Int32) (hf : zf_X5_hasRow h q = some res) : zc_M l g yX5_hasRow cX5_hasRow 1 (some .boolean) zr_X5_hasRow h [va_rf ((some q))] h (some (.int (res))) := by
  refine zc_M.of (by decide) (by simp [lg_sl, zv_cat, zv_ci, zv_cj]) ?_
  intro p e s m below meth c ls S hK hw hr hlk hnm hl
  replace S : CallFix p m c cX5_hasRow 1 s [va_rf ((some q))].toArray (zc_ws yX5_hasRow cX5_hasRow 1 (some .boolean)) RX5 := S
  have hx := S.1
  have hb := S.2.1
  replace hl : lv_has ls 1 [(0, va_rf ((some q)))] := by simpa [lv_args, zv_cat, zv_ci, zv_cj] using hl
  generalize s.heap = H at hw ⊢
  obtain ⟨locs, hlocs⟩ : ∃ L : List Loc, L = [] := ⟨_, rfl⟩
  rw [← hlocs] at hw ⊢
  unfold zf_X5_hasRow at hf
  obtain ⟨-, hf⟩ := zo_n hf
  refine zl_aload_n hx hb zd_X5_hasRow_0 rfl (lv_at hl 0 rfl) ?_
  replace hf := zo_b hf; obtain ⟨v1, ev1, hf⟩ := hf
  obtain ⟨u2, u2e, u2v⟩ := zo_b ev1
  obtain rfl := zv_i_e u2v
  refine zw_get S hK hw zk_5 (k := 0) (by decide) rfl zm_294 (Or.inl rfl) u2e zd_X5_hasRow_1 ?_
  refine lv_bipush (v := 100) hx hb zd_X5_hasRow_4 (by decide) ?_
  refine lv_icmp_lt (tgt := 13) hx hb zd_X5_hasRow_6 (by decide) (fun c3 => ?_) (fun c3 => ?_)
  · replace hf := zo_t c3 hf
    refine lv_iconst (v := 0) hx hb zd_X5_hasRow_13 (by decide) ?_
    have hres := Option.some.inj hf; subst hres
    exact zw_iret (v := 0) (ty := .boolean) hx hb hr hlk rfl hw zd_X5_hasRow_14 (Nat.le_refl 0) (Nat.le_refl 0)
  · replace hf := zo_f c3 hf
    refine lv_iconst (v := 1) hx hb zd_X5_hasRow_9 (by decide) ?_
    refine lv_goto (tgt := 14) hx hb zd_X5_hasRow_10 (by decide) ?_
    have hres := Option.some.inj hf; subst hres
    exact zw_iret (v := 1) (ty := .boolean) hx hb hr hlk rfl hw zd_X5_hasRow_14 (Nat.le_refl 0) (Nat.le_refl 0)
def zf_X5_hasElement (h : zc_H) (q : Nat) (x1 : Int32) : Option (Int32) :=
  if ¬ zf_is h q 5 = true then none else
  (zf_X5_hasRow h q).bind fun r1 =>
  if r1 = 0 then
    some 0
  else
  if x1 < 0 then
    some 0
  else
  (zf_gi h q 5 1).bind fun v4 =>
  if v4 ≤ x1 then
    some 0
  else
  (zf_gr h q 5 2).bind fun v7 =>
  v7.bind fun a9 =>
  (zf_len h a9).bind fun v10 =>
  if v10 ≤ x1 then
    some 0
  else
  some 1
abbrev zr_X5_hasElement : Room := { frames := 1, cells := 0, slots := 0, locals := 20 }
theorem zi_X5_hasElement {h : zc_H} {q : Nat} {x1 : Int32} {res : Int32} (hf : zf_X5_hasElement h q x1 = some res) : zf_is h q 5 = true := Decidable.not_not.mp (zo_n hf).1
set_option maxHeartbeats 4000000 in
set_option maxRecDepth 20000 in
theorem zt_X5_hasElement (l : Launch) (g : zc_G) (h : zc_H) (q : Nat) (x1 : Int32) (res : Int32) (hf : zf_X5_hasElement h q x1 = some res) : zc_M l g yX5_hasElement cX5_hasElement 2 (some .boolean) zr_X5_hasElement h [va_rf ((some q)), .int (x1)] h (some (.int (res))) := by
  refine zc_M.of (by decide) (by simp [lg_sl, zv_cat, zv_ci, zv_cj]) ?_
  intro p e s m below meth c ls S hK hw hr hlk hnm hl
  replace S : CallFix p m c cX5_hasElement 2 s [va_rf ((some q)), .int (x1)].toArray (zc_ws yX5_hasElement cX5_hasElement 2 (some .boolean)) RX5 := S
  have hx := S.1
  have hb := S.2.1
  replace hl : lv_has ls 2 [(0, va_rf ((some q))), (1, .int (x1))] := by simpa [lv_args, zv_cat, zv_ci, zv_cj] using hl
  generalize s.heap = H at hw ⊢
  obtain ⟨locs, hlocs⟩ : ∃ L : List Loc, L = [] := ⟨_, rfl⟩
  rw [← hlocs] at hw ⊢
  unfold zf_X5_hasElement at hf
  obtain ⟨-, hf⟩ := zo_n hf
  refine zl_aload_n hx hb zd_X5_hasElement_0 rfl (lv_at hl 0 rfl) ?_
  replace hf := zo_b hf; obtain ⟨r1, er1, hf⟩ := hf
  refine zw_callV (n := 0) (ci := 5) (q := zc_cl[5]) (As := []) (rest := []) S hK hw (zt_X5_hasRow l g h q _ er1) zm_379 zm_368 zm_369 zq_X5_hasRow zm_78 (by decide +kernel) ⟨Nat.le_of_ble_eq_true rfl, Nat.le_of_ble_eq_true rfl⟩ rfl rfl rfl (zi_X5_hasRow er1) hl.1 rfl (by simp [zv_cat, zv_ci, zv_cj]) zd_X5_hasElement_1 ⟨(Nat.le_refl 0), (Nat.le_refl 0)⟩ (fun H locs hw => ?_)
  replace hw : zc_W g h H locs := hw
  refine lv_if_eq (tgt := 32) hx hb zd_X5_hasElement_4 (by decide) (fun c2 => ?_) (fun c2 => ?_)
  · replace hf := zo_t c2 hf
    refine lv_iconst (v := 0) hx hb zd_X5_hasElement_32 (by decide) ?_
    have hres := Option.some.inj hf; subst hres
    exact zw_iret (v := 0) (ty := .boolean) hx hb hr hlk rfl hw zd_X5_hasElement_33 (Nat.le_refl 0) (Nat.le_refl 0)
  · replace hf := zo_f c2 hf
    refine lv_iload_n hx hb zd_X5_hasElement_7 rfl (lv_at hl 1 rfl) ?_
    refine lv_if_lt (tgt := 32) hx hb zd_X5_hasElement_8 (by decide) (fun c3 => ?_) (fun c3 => ?_)
    · replace hf := zo_t c3 hf
      refine lv_iconst (v := 0) hx hb zd_X5_hasElement_32 (by decide) ?_
      have hres := Option.some.inj hf; subst hres
      exact zw_iret (v := 0) (ty := .boolean) hx hb hr hlk rfl hw zd_X5_hasElement_33 (Nat.le_refl 0) (Nat.le_refl 0)
    · replace hf := zo_f c3 hf
      refine lv_iload_n hx hb zd_X5_hasElement_11 rfl (lv_at hl 1 rfl) ?_
      refine zl_aload_n hx hb zd_X5_hasElement_12 rfl (lv_at hl 0 rfl) ?_
      replace hf := zo_b hf; obtain ⟨v4, ev4, hf⟩ := hf
      obtain ⟨u5, u5e, u5v⟩ := zo_b ev4
      obtain rfl := zv_i_e u5v
      refine zw_get S hK hw zk_5 (k := 1) (by decide) rfl zm_296 (Or.inl rfl) u5e zd_X5_hasElement_13 ?_
      refine lv_icmp_ge (tgt := 32) hx hb zd_X5_hasElement_16 (by decide) (fun c6 => ?_) (fun c6 => ?_)
      · replace hf := zo_t c6 hf
        refine lv_iconst (v := 0) hx hb zd_X5_hasElement_32 (by decide) ?_
        have hres := Option.some.inj hf; subst hres
        exact zw_iret (v := 0) (ty := .boolean) hx hb hr hlk rfl hw zd_X5_hasElement_33 (Nat.le_refl 0) (Nat.le_refl 0)
      · replace hf := zo_f c6 hf
        refine lv_iload_n hx hb zd_X5_hasElement_19 rfl (lv_at hl 1 rfl) ?_
        refine zl_aload_n hx hb zd_X5_hasElement_20 rfl (lv_at hl 0 rfl) ?_
        replace hf := zo_b hf; obtain ⟨v7, ev7, hf⟩ := hf
        obtain ⟨u8, u8e, u8v⟩ := zo_b ev7
        obtain rfl := zv_r_e u8v
        refine zw_get S hK hw zk_5 (k := 2) (by decide) rfl zm_299 (Or.inl rfl) u8e zd_X5_hasElement_21 ?_
        replace hf := zo_b hf; obtain ⟨a9, na9, hf⟩ := hf
        refine W.eq (g2 := F0 m 24 ls [va_rf ((some a9)), .int (x1)]) (by rw [na9] <;> rfl) ?_
        replace hf := zo_b hf; obtain ⟨v10, ev10, hf⟩ := hf
        refine zw_alen S hK hw ev10 zd_X5_hasElement_24 ?_
        refine lv_icmp_ge (tgt := 32) hx hb zd_X5_hasElement_25 (by decide) (fun c11 => ?_) (fun c11 => ?_)
        · replace hf := zo_t c11 hf
          refine lv_iconst (v := 0) hx hb zd_X5_hasElement_32 (by decide) ?_
          have hres := Option.some.inj hf; subst hres
          exact zw_iret (v := 0) (ty := .boolean) hx hb hr hlk rfl hw zd_X5_hasElement_33 (Nat.le_refl 0) (Nat.le_refl 0)
        · replace hf := zo_f c11 hf
          refine lv_iconst (v := 1) hx hb zd_X5_hasElement_28 (by decide) ?_
          refine lv_goto (tgt := 33) hx hb zd_X5_hasElement_29 (by decide) ?_
          have hres := Option.some.inj hf; subst hres
          exact zw_iret (v := 1) (ty := .boolean) hx hb hr hlk rfl hw zd_X5_hasElement_33 (Nat.le_refl 0) (Nat.le_refl 0)
def zf_X5_elementAt (h : zc_H) (q : Nat) (x1 : Int32) : Option (Int64) :=
  if ¬ zf_is h q 5 = true then none else
  (zf_X5_hasElement h q x1).bind fun r1 =>
  if r1 = 0 then
    some 0
  else
  (zf_gr h q 5 2).bind fun v3 =>
  v3.bind fun a5 =>
  (zf_aj h a5 x1).bind fun v6 =>
  some v6
abbrev zr_X5_elementAt : Room := { frames := 2, cells := 0, slots := 0, locals := 41 }
theorem zi_X5_elementAt {h : zc_H} {q : Nat} {x1 : Int32} {res : Int64} (hf : zf_X5_elementAt h q x1 = some res) : zf_is h q 5 = true := Decidable.not_not.mp (zo_n hf).1
set_option maxHeartbeats 4000000 in
set_option maxRecDepth 20000 in
theorem zt_X5_elementAt (l : Launch) (g : zc_G) (h : zc_H) (q : Nat) (x1 : Int32) (res : Int64) (hf : zf_X5_elementAt h q x1 = some res) : zc_M l g yX5_elementAt cX5_elementAt 2 (some .long) zr_X5_elementAt h [va_rf ((some q)), .int (x1)] h (some (.long (res))) := by
  refine zc_M.of (by decide) (by simp [lg_sl, zv_cat, zv_ci, zv_cj]) ?_
  intro p e s m below meth c ls S hK hw hr hlk hnm hl
  replace S : CallFix p m c cX5_elementAt 2 s [va_rf ((some q)), .int (x1)].toArray (zc_ws yX5_elementAt cX5_elementAt 2 (some .long)) RX5 := S
  have hx := S.1
  have hb := S.2.1
  replace hl : lv_has ls 2 [(0, va_rf ((some q))), (1, .int (x1))] := by simpa [lv_args, zv_cat, zv_ci, zv_cj] using hl
  generalize s.heap = H at hw ⊢
  obtain ⟨locs, hlocs⟩ : ∃ L : List Loc, L = [] := ⟨_, rfl⟩
  rw [← hlocs] at hw ⊢
  unfold zf_X5_elementAt at hf
  obtain ⟨-, hf⟩ := zo_n hf
  refine zl_aload_n hx hb zd_X5_elementAt_0 rfl (lv_at hl 0 rfl) ?_
  refine lv_iload_n hx hb zd_X5_elementAt_1 rfl (lv_at hl 1 rfl) ?_
  replace hf := zo_b hf; obtain ⟨r1, er1, hf⟩ := hf
  refine zw_callV (n := 1) (ci := 5) (q := zc_cl[5]) (As := [.int (x1)]) (rest := []) S hK hw (zt_X5_hasElement l g h q x1 _ er1) zm_384 zm_376 zm_377 zq_X5_hasElement zm_78 (by decide +kernel) ⟨Nat.le_of_ble_eq_true rfl, Nat.le_of_ble_eq_true rfl⟩ rfl rfl rfl (zi_X5_hasElement er1) hl.1 rfl (by simp [zv_cat, zv_ci, zv_cj]) zd_X5_elementAt_2 ⟨(Nat.le_refl 0), (Nat.le_refl 0)⟩ (fun H locs hw => ?_)
  replace hw : zc_W g h H locs := hw
  refine lv_if_eq (tgt := 17) hx hb zd_X5_elementAt_5 (by decide) (fun c2 => ?_) (fun c2 => ?_)
  · replace hf := zo_t c2 hf
    refine lv_lconst (v := 0) hx hb zd_X5_elementAt_17 (by decide) ?_
    have hres := Option.some.inj hf; subst hres
    exact zw_lret hx hb hr hlk hw zd_X5_elementAt_18 (Nat.le_refl 0) (Nat.le_refl 0)
  · replace hf := zo_f c2 hf
    refine zl_aload_n hx hb zd_X5_elementAt_8 rfl (lv_at hl 0 rfl) ?_
    replace hf := zo_b hf; obtain ⟨v3, ev3, hf⟩ := hf
    obtain ⟨u4, u4e, u4v⟩ := zo_b ev3
    obtain rfl := zv_r_e u4v
    refine zw_get S hK hw zk_5 (k := 2) (by decide) rfl zm_299 (Or.inl rfl) u4e zd_X5_elementAt_9 ?_
    refine lv_iload_n hx hb zd_X5_elementAt_12 rfl (lv_at hl 1 rfl) ?_
    replace hf := zo_b hf; obtain ⟨a5, na5, hf⟩ := hf
    refine W.eq (g2 := F0 m 13 ls [.int (x1), va_rf ((some a5))]) (by rw [na5] <;> rfl) ?_
    replace hf := zo_b hf; obtain ⟨v6, ev6, hf⟩ := hf
    refine zw_lald S hK hw ev6 zd_X5_elementAt_13 ?_
    refine lv_goto (tgt := 18) hx hb zd_X5_elementAt_14 (by decide) ?_
    have hres := Option.some.inj hf; subst hres
    exact zw_lret hx hb hr hlk hw zd_X5_elementAt_18 (Nat.le_refl 0) (Nat.le_refl 0)
def zf_X5_numberAt (h : zc_H) (q : Nat) (x1 : Int32) : Option (Int32) :=
  if ¬ zf_is h q 5 = true then none else
  (zf_X5_elementAt h q x1).bind fun r1 =>
  some ((r1 : Int64).toInt32)
abbrev zr_X5_numberAt : Room := { frames := 3, cells := 0, slots := 0, locals := 62 }
theorem zi_X5_numberAt {h : zc_H} {q : Nat} {x1 : Int32} {res : Int32} (hf : zf_X5_numberAt h q x1 = some res) : zf_is h q 5 = true := Decidable.not_not.mp (zo_n hf).1
set_option maxHeartbeats 4000000 in
set_option maxRecDepth 20000 in
theorem zt_X5_numberAt (l : Launch) (g : zc_G) (h : zc_H) (q : Nat) (x1 : Int32) (res : Int32) (hf : zf_X5_numberAt h q x1 = some res) : zc_M l g yX5_numberAt cX5_numberAt 2 (some .int) zr_X5_numberAt h [va_rf ((some q)), .int (x1)] h (some (.int (res))) := by
  refine zc_M.of (by decide) (by simp [lg_sl, zv_cat, zv_ci, zv_cj]) ?_
  intro p e s m below meth c ls S hK hw hr hlk hnm hl
  replace S : CallFix p m c cX5_numberAt 2 s [va_rf ((some q)), .int (x1)].toArray (zc_ws yX5_numberAt cX5_numberAt 2 (some .int)) RX5 := S
  have hx := S.1
  have hb := S.2.1
  replace hl : lv_has ls 2 [(0, va_rf ((some q))), (1, .int (x1))] := by simpa [lv_args, zv_cat, zv_ci, zv_cj] using hl
  generalize s.heap = H at hw ⊢
  obtain ⟨locs, hlocs⟩ : ∃ L : List Loc, L = [] := ⟨_, rfl⟩
  rw [← hlocs] at hw ⊢
  unfold zf_X5_numberAt at hf
  obtain ⟨-, hf⟩ := zo_n hf
  refine zl_aload_n hx hb zd_X5_numberAt_0 rfl (lv_at hl 0 rfl) ?_
  refine lv_iload_n hx hb zd_X5_numberAt_1 rfl (lv_at hl 1 rfl) ?_
  replace hf := zo_b hf; obtain ⟨r1, er1, hf⟩ := hf
  refine zw_callV (n := 1) (ci := 5) (q := zc_cl[5]) (As := [.int (x1)]) (rest := []) S hK hw (zt_X5_elementAt l g h q x1 _ er1) zm_495 zm_413 zm_414 zq_X5_elementAt zm_78 (by decide +kernel) ⟨Nat.le_of_ble_eq_true rfl, Nat.le_of_ble_eq_true rfl⟩ rfl rfl rfl (zi_X5_elementAt er1) hl.1 rfl (by simp [zv_cat, zv_ci, zv_cj]) zd_X5_numberAt_2 ⟨(Nat.le_refl 0), (Nat.le_refl 0)⟩ (fun H locs hw => ?_)
  replace hw : zc_W g h H locs := hw
  refine lv_l2i (v := ((r1 : Int64).toInt32)) hx hb zd_X5_numberAt_5 rfl ?_
  have hres := Option.some.inj hf; subst hres
  exact zw_iret (v := ((r1 : Int64).toInt32)) (ty := .int) hx hb hr hlk rfl hw zd_X5_numberAt_6 (Nat.le_refl 0) (Nat.le_refl 0)
def zf_X0_readText_L13 (q : Nat) (y1 : Option Nat) : Nat → zc_H → Int64 → Int32 → Int32 → Option (zc_H × ((Int64 × Int32) ⊕ (Int32) ⊕ (Int32)))
  | 0, _, _, _, _ => none
  | n + 1, h, y2, y4, y5 =>
    y1.bind fun a2 =>
    (zf_gi h a2 5 1).bind fun v3 =>
    if v3 ≤ y5 then
      some (h, (.inl (y2, y4)))
    else
    (zf_X5_numberAt h a2 y5).bind fun r6 =>
    let k110 := fun (h110j : zc_H) (y110_2 : Int64) (y110_4 : Int32) =>
      zf_X0_readText_L13 q y1 n h110j y110_2 y110_4 (y5 + 1)
    if r6 = 47 then
      if y4 = 0 then
        some (h, (.inr (.inl y5)))
      else
      (zf_gi h q 0 1).bind fun v12 =>
      if v12 < 23 then
        (zf_gi h q 0 1).bind fun v15 =>
        (zf_X0_insert h q v15 y2).bind fun r17 =>
        k110 r17 0 0
      else
      some (h, (.inr (.inl y5)))
    else
    if r6 < 97 then
      some (h, (.inr (.inr y5)))
    else
    if 122 < r6 then
      some (h, (.inr (.inr y5)))
    else
    if y4 < 8 then
      k110 h (y2 ||| ((((r6 : Int32).toInt64) <<< (((8 * y4) : Int32).toInt64 &&& 63)))) (y4 + 1)
    else
    some (h, (.inr (.inr y5)))
def zf_X0_readText (h : zc_H) (q : Nat) (x1 : Option Nat) : Option (zc_H × Int32) :=
  if ¬ zf_is h q 0 = true then none else
  (zf_p h q 0 1 (.int (0))).bind fun h1 =>
  (zf_X0_readText_L13 q x1 2000 h1 0 0 0).bind fun w18 =>
  Sum.elim (fun t19 =>
    if t19.2 ≤ 0 then
      x1.bind fun a22 =>
      (zf_gi w18.1 a22 5 1).bind fun v23 =>
      if v23 = 0 then
        some (w18.1, (-1))
      else
      (zf_gi w18.1 a22 5 1).bind fun v26 =>
      some (w18.1, v26)
    else
    (zf_gi w18.1 q 0 1).bind fun v28 =>
    (zf_X0_insert w18.1 q v28 t19.1).bind fun r30 =>
    some (r30, (-1))
    ) (fun t20 =>
    Sum.elim (fun t31 =>
      some (w18.1, t31)
      ) (fun t32 =>
      some (w18.1, t32)
      ) t20
    ) w18.2
abbrev zr_X0_readText : Room := { frames := 4, cells := 0, slots := 0, locals := 83 }
theorem zi_X0_readText {h : zc_H} {q : Nat} {x1 : Option Nat} {res : zc_H × Int32} (hf : zf_X0_readText h q x1 = some res) : zf_is h q 0 = true := Decidable.not_not.mp (zo_n hf).1
set_option maxHeartbeats 4000000 in
set_option maxRecDepth 20000 in
theorem zt_X0_readText (l : Launch) (g : zc_G) (h : zc_H) (q : Nat) (x1 : Option Nat) (res : zc_H × Int32) (hf : zf_X0_readText h q x1 = some res) : zc_M l g yX0_readText cX0_readText 7 (some .int) zr_X0_readText h [va_rf ((some q)), va_rf (x1)] res.1 (some (.int (res.2))) := by
  refine zc_M.of (by decide) (by simp [lg_sl, zv_cat, zv_ci, zv_cj]) ?_
  intro p e s m below meth c ls S hK hw hr hlk hnm hl
  replace S : CallFix p m c cX0_readText 7 s [va_rf ((some q)), va_rf (x1)].toArray (zc_ws yX0_readText cX0_readText 7 (some .int)) RX0 := S
  have hx := S.1
  have hb := S.2.1
  replace hl : lv_has ls 7 [(0, va_rf ((some q))), (1, va_rf (x1))] := by simpa [lv_args, zv_cat, zv_ci, zv_cj] using hl
  generalize s.heap = H at hw ⊢
  obtain ⟨locs, hlocs⟩ : ∃ L : List Loc, L = [] := ⟨_, rfl⟩
  rw [← hlocs] at hw ⊢
  have L13 : ∀ (y1 : Option Nat) (n : Nat) (h : zc_H) (y2 : Int64) (y4 : Int32) (y5 : Int32) (w : zc_H × ((Int64 × Int32) ⊕ (Int32) ⊕ (Int32))) (H : Heap) (locs : List Loc) (ls : Array Slot), zf_X0_readText_L13 q y1 n h y2 y4 y5 = some w → zc_W g h H locs → lv_has ls 7 [(0, va_rf ((some q))), (1, va_rf (y1)), (2, .long (y2)), (4, .int (y4)), (5, .int (y5))] → (∀ (t : Int64 × Int32) (H : Heap) (locs : List Loc) (ls : Array Slot), w.2 = (.inl t) → zc_W g w.1 H locs → lv_has ls 7 [(0, va_rf ((some q))), (1, va_rf (y1)), (2, .long (t.1)), (4, .int (t.2))] → W p l e zr_X0_readText s m [va_rf ((some q)), va_rf (x1)].toArray below meth c H locs 0 0 (zc_Q g below zr_X0_readText (some (.int (res.2))) res.1 [va_rf ((some q)), va_rf (x1)] s) (F0 m 116 ls [])) → (∀ (t : Int32) (H : Heap) (locs : List Loc) (ls : Array Slot), w.2 = (.inr (.inl t)) → zc_W g w.1 H locs → lv_has ls 7 [(5, .int (t))] → W p l e zr_X0_readText s m [va_rf ((some q)), va_rf (x1)].toArray below meth c H locs 0 0 (zc_Q g below zr_X0_readText (some (.int (res.2))) res.1 [va_rf ((some q)), va_rf (x1)] s) (F0 m 51 ls [])) → (∀ (t : Int32) (H : Heap) (locs : List Loc) (ls : Array Slot), w.2 = (.inr (.inr t)) → zc_W g w.1 H locs → lv_has ls 7 [(5, .int (t))] → W p l e zr_X0_readText s m [va_rf ((some q)), va_rf (x1)].toArray below meth c H locs 0 0 (zc_Q g below zr_X0_readText (some (.int (res.2))) res.1 [va_rf ((some q)), va_rf (x1)] s) (F0 m 92 ls [])) → W p l e zr_X0_readText s m [va_rf ((some q)), va_rf (x1)].toArray below meth c H locs 0 0 (zc_Q g below zr_X0_readText (some (.int (res.2))) res.1 [va_rf ((some q)), va_rf (x1)] s) (F0 m 13 ls []) := by
    intro y1 n
    induction n with
    | zero =>
      intro h y2 y4 y5 w H locs ls hf
      cases hf
    | succ n ih =>
      intro h y2 y4 y5 w H locs ls hf hw hl  kk1 kk2 kk3
      unfold zf_X0_readText_L13 at hf
      refine lv_iload hx hb zd_X0_readText_13 (lv_at hl 4 rfl) ?_
      refine zl_aload_n hx hb zd_X0_readText_15 rfl (lv_at hl 1 rfl) ?_
      replace hf := zo_b hf; obtain ⟨a2, na2, hf⟩ := hf
      refine W.eq (g2 := F0 m 16 ls [va_rf ((some a2)), .int (y5)]) (by rw [na2] <;> rfl) ?_
      replace hf := zo_b hf; obtain ⟨v3, ev3, hf⟩ := hf
      obtain ⟨u4, u4e, u4v⟩ := zo_b ev3
      obtain rfl := zv_i_e u4v
      refine zw_get S hK hw zk_5 (k := 1) (by decide) rfl zm_297 (Or.inl rfl) u4e zd_X0_readText_16 ?_
      refine lv_icmp_ge (tgt := 116) hx hb zd_X0_readText_19 (by decide) (fun c5 => ?_) (fun c5 => ?_)
      · replace hf := zo_t c5 hf
        have hres := Option.some.inj hf; subst hres
        exact kk1 _ _ _ _ rfl hw (lv_sub hl [0, 1, 2, 3] rfl)
      · replace hf := zo_f c5 hf
        refine zl_aload_n hx hb zd_X0_readText_22 rfl (lv_at hl 1 rfl) ?_
        refine lv_iload hx hb zd_X0_readText_23 (lv_at hl 4 rfl) ?_
        refine W.eq (g2 := F0 m 25 ls [.int (y5), va_rf ((some a2))]) (by rw [na2] <;> rfl) ?_
        replace hf := zo_b hf; obtain ⟨r6, er6, hf⟩ := hf
        refine zw_callV (n := 1) (ci := 5) (q := zc_cl[5]) (As := [.int (y5)]) (rest := []) S hK hw (zt_X5_numberAt l g h a2 y5 _ er6) zm_491 zm_492 zm_493 zq_X5_numberAt zm_78 (by decide +kernel) ⟨Nat.le_of_ble_eq_true rfl, Nat.le_of_ble_eq_true rfl⟩ rfl rfl rfl (zi_X5_numberAt er6) hl.1 rfl (by simp [zv_cat, zv_ci, zv_cj]) zd_X0_readText_25 ⟨(Nat.le_refl 0), (Nat.le_refl 0)⟩ (fun H locs hw => ?_)
        replace hw : zc_W g h H locs := hw
        refine lv_istore (i := 6) (lv' := [(6, .int (r6)), (0, va_rf ((some q))), (1, va_rf (y1)), (2, .long (y2)), (4, .int (y4)), (5, .int (y5))]) hx hb zd_X0_readText_28 hl (by decide) rfl (fun ls hl => ?_)
        refine lv_iload hx hb zd_X0_readText_30 (lv_at hl 0 rfl) ?_
        refine lv_bipush (v := 47) hx hb zd_X0_readText_32 (by decide) ?_
        have k110h : ∀ (h110j : zc_H) (y110_2 : Int64) (y110_4 : Int32) (H : Heap) (locs : List Loc) (ls : Array Slot), (
            zf_X0_readText_L13 q y1 n h110j y110_2 y110_4 (y5 + 1)
            ) = some w → zc_W g h110j H locs → lv_has ls 7 [(0, va_rf ((some q))), (1, va_rf (y1)), (2, .long (y110_2)), (4, .int (y110_4)), (5, .int (y5))] → W p l e zr_X0_readText s m [va_rf ((some q)), va_rf (x1)].toArray below meth c H locs (0 + 0) (0 + 0) (zc_Q g below zr_X0_readText (some (.int (res.2))) res.1 [va_rf ((some q)), va_rf (x1)] s) (F0 m 110 ls []) := by
          intro h110j y110_2 y110_4 H locs ls hf hw hl
          refine lv_iinc (i := 5) (v := (y5 + 1)) (lv' := [(5, .int ((y5 + 1))), (0, va_rf ((some q))), (1, va_rf (y1)), (2, .long (y110_2)), (4, .int (y110_4))]) hx hb zd_X0_readText_110 hl (k := 4) rfl (congrArg (_ + ·) (by decide)) (by decide) rfl (fun ls hl => ?_)
          refine lv_goto (tgt := 13) hx hb zd_X0_readText_113 (by decide) ?_
          exact ih h110j y110_2 y110_4 (y5 + 1) _ _ _ _ hf hw (lv_sub hl [1, 2, 3, 4, 0] rfl) kk1 kk2 kk3
        refine lv_icmp_ne (tgt := 71) hx hb zd_X0_readText_34 (by decide) (fun c7 => ?_) (fun c7 => ?_)
        · replace hf := zo_f c7 hf
          refine lv_iload hx hb zd_X0_readText_71 (lv_at hl 0 rfl) ?_
          refine lv_bipush (v := 97) hx hb zd_X0_readText_73 (by decide) ?_
          refine lv_icmp_lt (tgt := 92) hx hb zd_X0_readText_75 (by decide) (fun c8 => ?_) (fun c8 => ?_)
          · replace hf := zo_t c8 hf
            have hres := Option.some.inj hf; subst hres
            exact kk3 _ _ _ _ rfl hw (lv_sub hl [5] rfl)
          · replace hf := zo_f c8 hf
            refine lv_iload hx hb zd_X0_readText_78 (lv_at hl 0 rfl) ?_
            refine lv_bipush (v := 122) hx hb zd_X0_readText_80 (by decide) ?_
            refine lv_icmp_gt (tgt := 92) hx hb zd_X0_readText_82 (by decide) (fun c9 => ?_) (fun c9 => ?_)
            · replace hf := zo_t c9 hf
              have hres := Option.some.inj hf; subst hres
              exact kk3 _ _ _ _ rfl hw (lv_sub hl [5] rfl)
            · replace hf := zo_f c9 hf
              refine lv_iload hx hb zd_X0_readText_85 (lv_at hl 4 rfl) ?_
              refine lv_bipush (v := 8) hx hb zd_X0_readText_87 (by decide) ?_
              refine lv_icmp_lt (tgt := 95) hx hb zd_X0_readText_89 (by decide) (fun c10 => ?_) (fun c10 => ?_)
              · replace hf := zo_t c10 hf
                refine lv_lload_n hx hb zd_X0_readText_95 rfl (lv_at hl 3 rfl) ?_
                refine lv_iload hx hb zd_X0_readText_96 (lv_at hl 0 rfl) ?_
                refine lv_i2l (v := ((r6 : Int32).toInt64)) hx hb zd_X0_readText_98 rfl ?_
                refine lv_bipush (v := 8) hx hb zd_X0_readText_99 (by decide) ?_
                refine lv_iload hx hb zd_X0_readText_101 (lv_at hl 4 rfl) ?_
                refine lv_imul hx hb zd_X0_readText_103 ?_
                refine lv_lshl (v := ((((r6 : Int32).toInt64) <<< (((8 * y4) : Int32).toInt64 &&& 63)))) hx hb zd_X0_readText_104 rfl ?_
                refine lv_lor hx hb zd_X0_readText_105 ?_
                refine lv_lstore_n (i := 2) (lv' := [(2, .long ((y2 ||| ((((r6 : Int32).toInt64) <<< (((8 * y4) : Int32).toInt64 &&& 63)))))), (6, .int (r6)), (0, va_rf ((some q))), (1, va_rf (y1)), (4, .int (y4)), (5, .int (y5))]) hx hb zd_X0_readText_106 rfl hl (by decide) (by simp [List.filter, zv_cat, zv_ci, zv_cj]) (fun ls hl => ?_)
                refine lv_iinc (i := 4) (v := (y4 + 1)) (lv' := [(4, .int ((y4 + 1))), (2, .long ((y2 ||| ((((r6 : Int32).toInt64) <<< (((8 * y4) : Int32).toInt64 &&& 63)))))), (6, .int (r6)), (0, va_rf ((some q))), (1, va_rf (y1)), (5, .int (y5))]) hx hb zd_X0_readText_107 hl (k := 4) rfl (congrArg (_ + ·) (by decide)) (by decide) rfl (fun ls hl => ?_)
                exact k110h h (y2 ||| ((((r6 : Int32).toInt64) <<< (((8 * y4) : Int32).toInt64 &&& 63)))) (y4 + 1) _ _ _ hf hw (lv_sub hl [3, 4, 1, 0, 5] rfl)
              · replace hf := zo_f c10 hf
                have hres := Option.some.inj hf; subst hres
                exact kk3 _ _ _ _ rfl hw (lv_sub hl [5] rfl)
        · replace hf := zo_t c7 hf
          refine lv_iload hx hb zd_X0_readText_37 (lv_at hl 4 rfl) ?_
          refine lv_if_eq (tgt := 51) hx hb zd_X0_readText_39 (by decide) (fun c11 => ?_) (fun c11 => ?_)
          · replace hf := zo_t c11 hf
            have hres := Option.some.inj hf; subst hres
            exact kk2 _ _ _ _ rfl hw (lv_sub hl [5] rfl)
          · replace hf := zo_f c11 hf
            refine zl_aload_n hx hb zd_X0_readText_42 rfl (lv_at hl 1 rfl) ?_
            replace hf := zo_b hf; obtain ⟨v12, ev12, hf⟩ := hf
            obtain ⟨u13, u13e, u13v⟩ := zo_b ev12
            obtain rfl := zv_i_e u13v
            refine zw_get S hK hw zk_0 (k := 1) (by decide) rfl zm_168 (Or.inl rfl) u13e zd_X0_readText_43 ?_
            refine lv_bipush (v := 23) hx hb zd_X0_readText_46 (by decide) ?_
            refine lv_icmp_lt (tgt := 54) hx hb zd_X0_readText_48 (by decide) (fun c14 => ?_) (fun c14 => ?_)
            · replace hf := zo_t c14 hf
              refine zl_aload_n hx hb zd_X0_readText_54 rfl (lv_at hl 1 rfl) ?_
              refine zl_aload_n hx hb zd_X0_readText_55 rfl (lv_at hl 1 rfl) ?_
              replace hf := zo_b hf; obtain ⟨v15, ev15, hf⟩ := hf
              obtain ⟨u16, u16e, u16v⟩ := zo_b ev15
              obtain rfl := zv_i_e u16v
              refine zw_get S hK hw zk_0 (k := 1) (by decide) rfl zm_168 (Or.inl rfl) u16e zd_X0_readText_56 ?_
              refine lv_lload_n hx hb zd_X0_readText_59 rfl (lv_at hl 3 rfl) ?_
              replace hf := zo_b hf; obtain ⟨r17, er17, hf⟩ := hf
              refine zw_callV (n := 2) (ci := 0) (q := zc_cl[0]) (As := [.int (v15), .long (y2)]) (rest := []) S hK hw (zt_X0_insert l g h q v15 y2 _ er17) zm_496 zm_497 zm_498 zq_X0_insert zm_73 (by decide +kernel) ⟨Nat.le_of_ble_eq_true rfl, Nat.le_of_ble_eq_true rfl⟩ rfl rfl rfl (zi_X0_insert er17) hl.1 rfl (by simp [zv_cat, zv_ci, zv_cj]) zd_X0_readText_60 ⟨(Nat.le_refl 0), (Nat.le_refl 0)⟩ (fun H locs hw => ?_)
              replace hw : zc_W g r17 H locs := hw
              refine lv_lconst (v := 0) hx hb zd_X0_readText_63 (by decide) ?_
              refine lv_lstore_n (i := 2) (lv' := [(2, .long (0)), (6, .int (r6)), (0, va_rf ((some q))), (1, va_rf (y1)), (4, .int (y4)), (5, .int (y5))]) hx hb zd_X0_readText_64 rfl hl (by decide) (by simp [List.filter, zv_cat, zv_ci, zv_cj]) (fun ls hl => ?_)
              refine lv_iconst (v := 0) hx hb zd_X0_readText_65 (by decide) ?_
              refine lv_istore (i := 4) (lv' := [(4, .int (0)), (2, .long (0)), (6, .int (r6)), (0, va_rf ((some q))), (1, va_rf (y1)), (5, .int (y5))]) hx hb zd_X0_readText_66 hl (by decide) rfl (fun ls hl => ?_)
              refine lv_goto (tgt := 110) hx hb zd_X0_readText_68 (by decide) ?_
              exact k110h r17 0 0 _ _ _ hf hw (lv_sub hl [3, 4, 1, 0, 5] rfl)
            · replace hf := zo_f c14 hf
              have hres := Option.some.inj hf; subst hres
              exact kk2 _ _ _ _ rfl hw (lv_sub hl [5] rfl)
  unfold zf_X0_readText at hf
  obtain ⟨-, hf⟩ := zo_n hf
  refine zl_aload_n hx hb zd_X0_readText_0 rfl (lv_at hl 0 rfl) ?_
  refine lv_iconst (v := 0) hx hb zd_X0_readText_1 (by decide) ?_
  replace hf := zo_b hf; obtain ⟨h1, eh1, hf⟩ := hf
  refine zw_put S hK hw zk_0 (k := 1) (by decide) rfl zm_168 (Or.inl rfl) eh1 (ty := .int) (by decide +kernel) rfl rfl zd_X0_readText_2 (fun H locs hw => ?_)
  refine lv_lconst (v := 0) hx hb zd_X0_readText_5 (by decide) ?_
  refine lv_lstore_n (i := 2) (lv' := [(2, .long (0)), (0, va_rf ((some q))), (1, va_rf (x1))]) hx hb zd_X0_readText_6 rfl hl (by decide) (by simp [List.filter, zv_cat, zv_ci, zv_cj]) (fun ls hl => ?_)
  refine lv_iconst (v := 0) hx hb zd_X0_readText_7 (by decide) ?_
  refine lv_istore (i := 4) (lv' := [(4, .int (0)), (2, .long (0)), (0, va_rf ((some q))), (1, va_rf (x1))]) hx hb zd_X0_readText_8 hl (by decide) rfl (fun ls hl => ?_)
  refine lv_iconst (v := 0) hx hb zd_X0_readText_10 (by decide) ?_
  refine lv_istore (i := 5) (lv' := [(5, .int (0)), (4, .int (0)), (2, .long (0)), (0, va_rf ((some q))), (1, va_rf (x1))]) hx hb zd_X0_readText_11 hl (by decide) rfl (fun ls hl => ?_)
  replace hf := zo_b hf; obtain ⟨w18, w18e, hf⟩ := hf
  refine L13 x1 2000 h1 0 0 0 _ _ _ _ w18e hw (lv_sub hl [3, 4, 2, 1, 0] rfl) ?_ ?_ ?_
  · intro t19 H locs ls exw18 hw hl
    rw [exw18] at hf
    simp only [Sum.elim_inl, Sum.elim_inr] at hf
    refine lv_iload hx hb zd_X0_readText_116 (lv_at hl 3 rfl) ?_
    refine lv_if_le (tgt := 132) hx hb zd_X0_readText_118 (by decide) (fun c21 => ?_) (fun c21 => ?_)
    · replace hf := zo_t c21 hf
      refine zl_aload_n hx hb zd_X0_readText_132 rfl (lv_at hl 1 rfl) ?_
      replace hf := zo_b hf; obtain ⟨a22, na22, hf⟩ := hf
      refine W.eq (g2 := F0 m 133 ls [va_rf ((some a22))]) (by rw [na22] <;> rfl) ?_
      replace hf := zo_b hf; obtain ⟨v23, ev23, hf⟩ := hf
      obtain ⟨u24, u24e, u24v⟩ := zo_b ev23
      obtain rfl := zv_i_e u24v
      refine zw_get S hK hw zk_5 (k := 1) (by decide) rfl zm_297 (Or.inl rfl) u24e zd_X0_readText_133 ?_
      refine lv_if_ne (tgt := 143) hx hb zd_X0_readText_136 (by decide) (fun c25 => ?_) (fun c25 => ?_)
      · replace hf := zo_f c25 hf
        refine zl_aload_n hx hb zd_X0_readText_143 rfl (lv_at hl 1 rfl) ?_
        refine W.eq (g2 := F0 m 144 ls [va_rf ((some a22))]) (by rw [na22] <;> rfl) ?_
        replace hf := zo_b hf; obtain ⟨v26, ev26, hf⟩ := hf
        obtain ⟨u27, u27e, u27v⟩ := zo_b ev26
        obtain rfl := zv_i_e u27v
        refine zw_get S hK hw zk_5 (k := 1) (by decide) rfl zm_297 (Or.inl rfl) u27e zd_X0_readText_144 ?_
        have hres := Option.some.inj hf; subst hres
        exact zw_iret (v := v26) (ty := .int) hx hb hr hlk rfl hw zd_X0_readText_147 (Nat.le_refl 0) (Nat.le_refl 0)
      · replace hf := zo_t c25 hf
        refine lv_iconst (v := (-1)) hx hb zd_X0_readText_139 (by decide) ?_
        refine lv_goto (tgt := 147) hx hb zd_X0_readText_140 (by decide) ?_
        have hres := Option.some.inj hf; subst hres
        exact zw_iret (v := (-1)) (ty := .int) hx hb hr hlk rfl hw zd_X0_readText_147 (Nat.le_refl 0) (Nat.le_refl 0)
    · replace hf := zo_f c21 hf
      refine zl_aload_n hx hb zd_X0_readText_121 rfl (lv_at hl 0 rfl) ?_
      refine zl_aload_n hx hb zd_X0_readText_122 rfl (lv_at hl 0 rfl) ?_
      replace hf := zo_b hf; obtain ⟨v28, ev28, hf⟩ := hf
      obtain ⟨u29, u29e, u29v⟩ := zo_b ev28
      obtain rfl := zv_i_e u29v
      refine zw_get S hK hw zk_0 (k := 1) (by decide) rfl zm_168 (Or.inl rfl) u29e zd_X0_readText_123 ?_
      refine lv_lload_n hx hb zd_X0_readText_126 rfl (lv_at hl 2 rfl) ?_
      replace hf := zo_b hf; obtain ⟨r30, er30, hf⟩ := hf
      refine zw_callV (n := 2) (ci := 0) (q := zc_cl[0]) (As := [.int (v28), .long (t19.1)]) (rest := []) S hK hw (zt_X0_insert l g w18.1 q v28 t19.1 _ er30) zm_496 zm_497 zm_498 zq_X0_insert zm_73 (by decide +kernel) ⟨Nat.le_of_ble_eq_true rfl, Nat.le_of_ble_eq_true rfl⟩ rfl rfl rfl (zi_X0_insert er30) hl.1 rfl (by simp [zv_cat, zv_ci, zv_cj]) zd_X0_readText_127 ⟨(Nat.le_refl 0), (Nat.le_refl 0)⟩ (fun H locs hw => ?_)
      replace hw : zc_W g r30 H locs := hw
      refine lv_iconst (v := (-1)) hx hb zd_X0_readText_130 (by decide) ?_
      have hres := Option.some.inj hf; subst hres
      exact zw_iret (v := (-1)) (ty := .int) hx hb hr hlk rfl hw zd_X0_readText_131 (Nat.le_refl 0) (Nat.le_refl 0)
  · intro t31 H locs ls exw18 hw hl
    rw [exw18] at hf
    simp only [Sum.elim_inl, Sum.elim_inr] at hf
    refine lv_iload hx hb zd_X0_readText_51 (lv_at hl 0 rfl) ?_
    have hres := Option.some.inj hf; subst hres
    exact zw_iret (v := t31) (ty := .int) hx hb hr hlk rfl hw zd_X0_readText_53 (Nat.le_refl 0) (Nat.le_refl 0)
  · intro t32 H locs ls exw18 hw hl
    rw [exw18] at hf
    simp only [Sum.elim_inl, Sum.elim_inr] at hf
    refine lv_iload hx hb zd_X0_readText_92 (lv_at hl 0 rfl) ?_
    have hres := Option.some.inj hf; subst hres
    exact zw_iret (v := t32) (ty := .int) hx hb hr hlk rfl hw zd_X0_readText_94 (Nat.le_refl 0) (Nat.le_refl 0)
def zf_J7_copyOf_c38d5 (h : zc_H) (x0 : Option Nat) (x1 : Int32) : Option (zc_H × Option Nat) :=
  x0.bind fun a1 =>
  (zf_len h a1).bind fun v2 =>
  if x1 = v2 then
    (zf_clj h a1).bind fun h8 =>
    if ¬ zf_isj h8 h.2.1 = true then none else
    some (h8, (some h.2.1))
  else
  if x1 < 0 ∨ 40 < (x1 : Int32).toNatClampNeg then none else
  (some (zf_new h (.inl (1, (x1 : Int32).toNatClampNeg, .inr (.inl (fun _ => 0)))))).bind fun h4 =>
  (zf_len h4 a1).bind fun v6 =>
  (zf_cpj h4 a1 0 h.2.1 0 (if x1 < v6 then x1 else v6)).bind fun h7 =>
  some (h7, (some h.2.1))
abbrev zr_J7_copyOf_c38d5 : Room := { frames := 1, cells := 1, slots := 40, locals := 60 }
set_option maxHeartbeats 4000000 in
set_option maxRecDepth 20000 in
theorem zt_J7_copyOf_c38d5 (l : Launch) (g : zc_G) (h : zc_H) (x0 : Option Nat) (x1 : Int32) (res : zc_H × Option Nat) (hf : zf_J7_copyOf_c38d5 h x0 x1 = some res) : zc_M l g yJ7_copyOf_c38d5 cJ7_copyOf_c38d5 3 (some (.array .long)) zr_J7_copyOf_c38d5 h [va_rf (x0), .int (x1)] res.1 (some (va_rf (res.2))) := by
  refine zc_M.of (by decide) (by simp [lg_sl, zv_cat, zv_ci, zv_cj]) ?_
  intro p e s m below meth c ls S hK hw hr hlk hnm hl
  replace S : CallFix p m c cJ7_copyOf_c38d5 3 s [va_rf (x0), .int (x1)].toArray (zc_ws yJ7_copyOf_c38d5 cJ7_copyOf_c38d5 3 (some (.array .long))) RJ7 := S
  have hx := S.1
  have hb := S.2.1
  replace hl : lv_has ls 3 [(0, va_rf (x0)), (1, .int (x1))] := by simpa [lv_args, zv_cat, zv_ci, zv_cj] using hl
  generalize s.heap = H at hw ⊢
  obtain ⟨locs, hlocs⟩ : ∃ L : List Loc, L = [] := ⟨_, rfl⟩
  rw [← hlocs] at hw ⊢
  unfold zf_J7_copyOf_c38d5 at hf
  refine lv_iload_n hx hb zd_J7_copyOf_c38d5_0 rfl (lv_at hl 1 rfl) ?_
  refine zl_aload_n hx hb zd_J7_copyOf_c38d5_1 rfl (lv_at hl 0 rfl) ?_
  replace hf := zo_b hf; obtain ⟨a1, na1, hf⟩ := hf
  refine W.eq (g2 := F0 m 2 ls [va_rf ((some a1)), .int (x1)]) (by rw [na1] <;> rfl) ?_
  replace hf := zo_b hf; obtain ⟨v2, ev2, hf⟩ := hf
  refine zw_alen S hK hw ev2 zd_J7_copyOf_c38d5_2 ?_
  refine lv_icmp_ne (tgt := 14) hx hb zd_J7_copyOf_c38d5_3 (by decide) (fun c3 => ?_) (fun c3 => ?_)
  · replace hf := zo_f c3 hf
    refine lv_iload_n hx hb zd_J7_copyOf_c38d5_14 rfl (lv_at hl 1 rfl) ?_
    replace hf := zo_n hf; obtain ⟨z5, hf⟩ := hf
    replace hf := zo_b hf; obtain ⟨h4, eh4, hf⟩ := hf
    refine zw_newa (atype := .long) (t := 1) (a0 := ((x1 : Int32).toNatClampNeg, .inr (.inl (fun _ => 0)))) (ty := .long) (N := (x1 : Int32).toNatClampNeg) (K := 40) S hK hw zm_176 rfl rfl (Nat.le_of_ble_eq_true rfl) (fun h => h) (fun _ => rfl) (fun z => z5 (Or.inl z)) rfl (Nat.not_lt.mp fun z => z5 (Or.inr z)) (by decide) (by show _ ≤ (1 : Nat); omega) (by show _ ≤ (40 : Nat); omega) zd_J7_copyOf_c38d5_15 (fun H hw => ?_)
    replace hw : zc_W g h4 H locs := (Option.some.inj eh4) ▸ hw
    refine zl_astore_n (i := 2) (lv' := [(2, va_rf ((some h.2.1))), (0, va_rf (x0)), (1, .int (x1))]) hx hb zd_J7_copyOf_c38d5_17 rfl hl (by decide) rfl (fun ls hl => ?_)
    refine zl_aload_n hx hb zd_J7_copyOf_c38d5_18 rfl (lv_at hl 1 rfl) ?_
    refine lv_iconst (v := 0) hx hb zd_J7_copyOf_c38d5_19 (by decide) ?_
    refine zl_aload_n hx hb zd_J7_copyOf_c38d5_20 rfl (lv_at hl 0 rfl) ?_
    refine lv_iconst (v := 0) hx hb zd_J7_copyOf_c38d5_21 (by decide) ?_
    refine zl_aload_n hx hb zd_J7_copyOf_c38d5_22 rfl (lv_at hl 1 rfl) ?_
    refine W.eq (g2 := F0 m 23 ls [va_rf ((some a1)), .int (0), va_rf ((some h.2.1)), .int (0), va_rf (x0)]) (by rw [na1] <;> rfl) ?_
    replace hf := zo_b hf; obtain ⟨v6, ev6, hf⟩ := hf
    refine zw_alen S hK hw ev6 zd_J7_copyOf_c38d5_23 ?_
    refine lv_iload_n hx hb zd_J7_copyOf_c38d5_24 rfl (lv_at hl 2 rfl) ?_
    refine va_mmin hx hb (S.2.2.1.trans hl.1.symm) S.2.2.2.1 (S.2.2.2.2 _ (List.mem_cons_of_mem _ zm_521)) (S.2.2.2.2 _ (List.mem_cons_of_mem _ zm_522)) (S.2.2.2.2 _ (List.mem_cons_of_mem _ zm_85)) (S.2.2.2.2 _ (List.mem_cons_of_mem _ zm_523)) (Nat.le_of_ble_eq_true rfl) (by simp [zv_cat, zv_ci, zv_cj, zr_J7_copyOf_c38d5]) (by show _ ≤ (1 : Nat); omega) (by show _ ≤ (40 : Nat); omega) zd_J7_copyOf_c38d5_25 ?_
    refine W.eq (g2 := F0 m 28 ls [.int ((if x1 < v6 then x1 else v6)), .int (0), va_rf ((some h.2.1)), .int (0), va_rf ((some a1))]) (by rw [na1] <;> rfl) ?_
    replace hf := zo_b hf; obtain ⟨h7, eh7, hf⟩ := hf
    refine zw_cpj S hK hw (ls_size hl) zm_524 rfl eh7 (Nat.le_of_ble_eq_true rfl) (by simp [zv_cat, zv_ci, zv_cj, zr_J7_copyOf_c38d5, nativeFrameWords]) zd_J7_copyOf_c38d5_28 (fun H locs hw => ?_)
    refine zl_aload_n hx hb zd_J7_copyOf_c38d5_31 rfl (lv_at hl 0 rfl) ?_
    have hres := Option.some.inj hf; subst hres
    exact zw_aret hx hb hr (by first | exact Or.inl ⟨_, rfl⟩ | exact Or.inr ⟨_, rfl⟩) hlk hw zd_J7_copyOf_c38d5_32 (by show _ ≤ (1 : Nat); omega) (by show _ ≤ (40 : Nat); omega)
  · replace hf := zo_t c3 hf
    refine zl_aload_n hx hb zd_J7_copyOf_c38d5_6 rfl (lv_at hl 0 rfl) ?_
    refine W.eq (g2 := F0 m 7 ls [va_rf ((some a1))]) (by rw [na1] <;> rfl) ?_
    replace hf := zo_b hf; obtain ⟨h8, eh8, hf⟩ := hf
    refine zw_clj S hK hw (ls_size hl) eh8 (Nat.le_of_ble_eq_true rfl) (by simp [zv_cat, zv_ci, zv_cj, zr_J7_copyOf_c38d5]) zd_J7_copyOf_c38d5_7 (by show _ ≤ (1 : Nat); omega) (by show _ ≤ (40 : Nat); omega) (fun H hw => ?_)
    replace hf := zo_n hf; obtain ⟨z9, hf⟩ := hf
    refine zw_castJ S hK hw zm_520 (Decidable.not_not.mp z9) zd_J7_copyOf_c38d5_10 ?_
    have hres := Option.some.inj hf; subst hres
    exact zw_aret hx hb hr (by first | exact Or.inl ⟨_, rfl⟩ | exact Or.inr ⟨_, rfl⟩) hlk hw zd_J7_copyOf_c38d5_13 (by show _ ≤ (1 : Nat); omega) (by show _ ≤ (40 : Nat); omega)
def zf_X0_linesSoFar (h : zc_H) (q : Nat) : Option (zc_H × Option Nat) :=
  if ¬ zf_is h q 0 = true then none else
  (zf_gr h q 0 0).bind fun v1 =>
  (zf_gi h q 0 1).bind fun v3 =>
  let k19 := fun (s19_0 : Int32) (s19_1 : Option Nat) =>
    (zf_J7_copyOf_c38d5 h s19_1 s19_0).bind fun r6 =>
    some (r6.1, r6.2)
  if 0 ≤ v3 then
    (zf_gi h q 0 1).bind fun v7 =>
    k19 v7 v1
  else
  k19 0 v1
abbrev zr_X0_linesSoFar : Room := { frames := 2, cells := 1, slots := 40, locals := 82 }
theorem zi_X0_linesSoFar {h : zc_H} {q : Nat} {res : zc_H × Option Nat} (hf : zf_X0_linesSoFar h q = some res) : zf_is h q 0 = true := Decidable.not_not.mp (zo_n hf).1
set_option maxHeartbeats 4000000 in
set_option maxRecDepth 20000 in
theorem zt_X0_linesSoFar (l : Launch) (g : zc_G) (h : zc_H) (q : Nat) (res : zc_H × Option Nat) (hf : zf_X0_linesSoFar h q = some res) : zc_M l g yX0_linesSoFar cX0_linesSoFar 1 (some (.array .long)) zr_X0_linesSoFar h [va_rf ((some q))] res.1 (some (va_rf (res.2))) := by
  refine zc_M.of (by decide) (by simp [lg_sl, zv_cat, zv_ci, zv_cj]) ?_
  intro p e s m below meth c ls S hK hw hr hlk hnm hl
  replace S : CallFix p m c cX0_linesSoFar 1 s [va_rf ((some q))].toArray (zc_ws yX0_linesSoFar cX0_linesSoFar 1 (some (.array .long))) RX0 := S
  have hx := S.1
  have hb := S.2.1
  replace hl : lv_has ls 1 [(0, va_rf ((some q)))] := by simpa [lv_args, zv_cat, zv_ci, zv_cj] using hl
  generalize s.heap = H at hw ⊢
  obtain ⟨locs, hlocs⟩ : ∃ L : List Loc, L = [] := ⟨_, rfl⟩
  rw [← hlocs] at hw ⊢
  unfold zf_X0_linesSoFar at hf
  obtain ⟨-, hf⟩ := zo_n hf
  refine zl_aload_n hx hb zd_X0_linesSoFar_0 rfl (lv_at hl 0 rfl) ?_
  replace hf := zo_b hf; obtain ⟨v1, ev1, hf⟩ := hf
  obtain ⟨u2, u2e, u2v⟩ := zo_b ev1
  obtain rfl := zv_r_e u2v
  refine zw_get S hK hw zk_0 (k := 0) (by decide) rfl zm_167 (Or.inl rfl) u2e zd_X0_linesSoFar_1 ?_
  refine zl_aload_n hx hb zd_X0_linesSoFar_4 rfl (lv_at hl 0 rfl) ?_
  replace hf := zo_b hf; obtain ⟨v3, ev3, hf⟩ := hf
  obtain ⟨u4, u4e, u4v⟩ := zo_b ev3
  obtain rfl := zv_i_e u4v
  refine zw_get S hK hw zk_0 (k := 1) (by decide) rfl zm_168 (Or.inl rfl) u4e zd_X0_linesSoFar_5 ?_
  have k19h : ∀ (s19_0 : Int32) (s19_1 : Option Nat) (H : Heap) (locs : List Loc) (ls : Array Slot), (
      (zf_J7_copyOf_c38d5 h s19_1 s19_0).bind fun r6 =>
      some (r6.1, r6.2)
      ) = some res → zc_W g h H locs → lv_has ls 1 [] → W p l e zr_X0_linesSoFar s m [va_rf ((some q))].toArray below meth c H locs 0 0 (zc_Q g below zr_X0_linesSoFar (some (va_rf (res.2))) res.1 [va_rf ((some q))] s) (F0 m 19 ls [.int (s19_0), va_rf (s19_1)]) := by
    intro s19_0 s19_1 H locs ls hf hw hl
    replace hf := zo_b hf; obtain ⟨r6, er6, hf⟩ := hf
    refine zw_callS (n := 2) (As := [va_rf (s19_1), .int (s19_0)]) (rest := []) S hK hw (zt_J7_copyOf_c38d5 l g h s19_1 s19_0 _ er6) zm_511 zm_512 zq_J7_copyOf_c38d5 zm_80 (by decide +kernel) ⟨Nat.le_of_ble_eq_true rfl, Nat.le_of_ble_eq_true rfl⟩ rfl hl.1 rfl (by simp [zv_cat, zv_ci, zv_cj]) zd_X0_linesSoFar_19 ⟨(by show 0 + (1 : Nat) ≤ (1 : Nat); omega), (by show 0 + (40 : Nat) ≤ (40 : Nat); omega)⟩ (fun H locs hw => ?_)
    replace hw : zc_W g r6.1 H locs := hw
    refine W.widen (k := (0 + 1)) (n := (0 + 40)) (Nat.le_refl _) (Nat.le_refl _) ?_
    have hres := Option.some.inj hf; subst hres
    exact zw_aret hx hb hr (by first | exact Or.inl ⟨_, rfl⟩ | exact Or.inr ⟨_, rfl⟩) hlk hw zd_X0_linesSoFar_22 (by show _ ≤ (1 : Nat); omega) (by show _ ≤ (40 : Nat); omega)
  refine lv_if_ge (tgt := 15) hx hb zd_X0_linesSoFar_8 (by decide) (fun c5 => ?_) (fun c5 => ?_)
  · replace hf := zo_t c5 hf
    refine zl_aload_n hx hb zd_X0_linesSoFar_15 rfl (lv_at hl 0 rfl) ?_
    replace hf := zo_b hf; obtain ⟨v7, ev7, hf⟩ := hf
    obtain ⟨u8, u8e, u8v⟩ := zo_b ev7
    obtain rfl := zv_i_e u8v
    refine zw_get S hK hw zk_0 (k := 1) (by decide) rfl zm_168 (Or.inl rfl) u8e zd_X0_linesSoFar_16 ?_
    exact k19h v7 v1 _ _ _ hf hw (lv_sub hl [] rfl)
  · replace hf := zo_f c5 hf
    refine lv_iconst (v := 0) hx hb zd_X0_linesSoFar_11 (by decide) ?_
    refine lv_goto (tgt := 19) hx hb zd_X0_linesSoFar_12 (by decide) ?_
    exact k19h 0 v1 _ _ _ hf hw (lv_sub hl [] rfl)
