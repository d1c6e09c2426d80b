def zf_X7_manyAhead_L30 (h : zc_H) (q : Nat) (y1 : Int32) (y2 : Int32) : Nat → Int32 → Int32 → Option (Int32)
  | 0, _, _ => none
  | n + 1, y3, y4 =>
    (zf_gr h q 7 2).bind fun v12 =>
    v12.bind fun a14 =>
    (zf_len h a14).bind fun v15 =>
    if v15 ≤ y4 then
      some y3
    else
    (zf_gr h q 7 2).bind fun v17 =>
    v17.bind fun a19 =>
    (zf_ai h a19 0 y4).bind fun v20 =>
    (zf_X9_firstOf h v20).bind fun r21 =>
    let k79 := fun (y79_3 : Int32) =>
      zf_X7_manyAhead_L30 h q y1 y2 n y79_3 (y4 + 1)
    if r21 = (-1) then
      k79 y3
    else
    let k76 := fun (_ : Unit) =>
      k79 (y3 + 1)
    if r21 < y2 then
      k76 ()
    else
    if r21 = y2 then
      if y1 ≤ y4 then
        k79 y3
      else
      k76 ()
    else
    k79 y3
def zf_X7_manyAhead (h : zc_H) (q : Nat) (x1 : Int32) : Option (Int32) :=
  if ¬ zf_is h q 7 = true then none else
  if x1 < 0 then
    some (-1)
  else
  (zf_gr h q 7 2).bind fun v2 =>
  v2.bind fun a4 =>
  (zf_len h a4).bind fun v5 =>
  if x1 < v5 then
    (zf_gr h q 7 2).bind fun v7 =>
    v7.bind fun a9 =>
    (zf_ai h a9 0 x1).bind fun v10 =>
    (zf_X9_firstOf h v10).bind fun r11 =>
    (zf_X7_manyAhead_L30 h q x1 r11 2000 0 0).bind fun w26 =>
    some w26
  else
  some (-1)
abbrev zr_X7_manyAhead : Room := { frames := 1, cells := 0, slots := 0, locals := 20 }
theorem zi_X7_manyAhead {h : zc_H} {q : Nat} {x1 : Int32} {res : Int32} (hf : zf_X7_manyAhead h q x1 = some res) : zf_is h q 7 = true := Decidable.not_not.mp (zo_n hf).1
set_option maxHeartbeats 4000000 in
set_option maxRecDepth 20000 in
theorem zt_X7_manyAhead (l : Launch) (g : zc_G) (h : zc_H) (q : Nat) (x1 : Int32) (res : Int32) (hf : zf_X7_manyAhead h q x1 = some res) : zc_M l g yX7_manyAhead cX7_manyAhead 6 (some .int) zr_X7_manyAhead h [va_rf ((some q)), .int (x1)] h (some (.int (res))) := by
  refine zc_M.of (by decide) (by simp [lg_sl, zv_cat, zv_ci, zv_cj]) ?_
  intro p e s m below meth c ls S hK hw hr hlk hnm hl
  replace S : CallFix p m c cX7_manyAhead 6 s [va_rf ((some q)), .int (x1)].toArray (zc_ws yX7_manyAhead cX7_manyAhead 6 (some .int)) RX7 := S
  have hx := S.1
  have hb := S.2.1
  replace hl : lv_has ls 6 [(0, va_rf ((some q))), (1, .int (x1))] := by simpa [lv_args, zv_cat, zv_ci, zv_cj] using hl
  generalize s.heap = H at hw ⊢
  obtain ⟨locs, hlocs⟩ : ∃ L : List Loc, L = [] := ⟨_, rfl⟩
  rw [← hlocs] at hw ⊢
  have L30 : ∀ (h : zc_H) (y1 : Int32) (y2 : Int32) (n : Nat) (y3 : Int32) (y4 : Int32) (w : Int32) (H : Heap) (locs : List Loc) (ls : Array Slot), zf_X7_manyAhead_L30 h q y1 y2 n y3 y4 = some w → zc_W g h H locs → lv_has ls 6 [(0, va_rf ((some q))), (1, .int (y1)), (2, .int (y2)), (3, .int (y3)), (4, .int (y4))] → (∀ (H : Heap) (locs : List Loc) (ls : Array Slot), zc_W g h H locs → lv_has ls 6 [(3, .int (w))] → W p l e zr_X7_manyAhead s m [va_rf ((some q)), .int (x1)].toArray below meth c H locs 0 0 (zc_Q g below zr_X7_manyAhead (some (.int (res))) h [va_rf ((some q)), .int (x1)] s) (F0 m 85 ls [])) → W p l e zr_X7_manyAhead s m [va_rf ((some q)), .int (x1)].toArray below meth c H locs 0 0 (zc_Q g below zr_X7_manyAhead (some (.int (res))) h [va_rf ((some q)), .int (x1)] s) (F0 m 30 ls []) := by
    intro h y1 y2 n
    induction n with
    | zero =>
      intro y3 y4 w H locs ls hf
      cases hf
    | succ n ih =>
      intro y3 y4 w H locs ls hf hw hl  kk
      unfold zf_X7_manyAhead_L30 at hf
      refine lv_iload hx hb zd_X7_manyAhead_30 (lv_at hl 4 rfl) ?_
      refine zl_aload_n hx hb zd_X7_manyAhead_32 rfl (lv_at hl 0 rfl) ?_
      replace hf := zo_b hf; obtain ⟨v12, ev12, hf⟩ := hf
      obtain ⟨u13, u13e, u13v⟩ := zo_b ev12
      obtain rfl := zv_r_e u13v
      refine zw_get S hK hw zk_7 (k := 2) (by decide) rfl zm_250 (Or.inl rfl) u13e zd_X7_manyAhead_33 ?_
      replace hf := zo_b hf; obtain ⟨a14, na14, hf⟩ := hf
      refine W.eq (g2 := F0 m 36 ls [va_rf ((some a14)), .int (y4)]) (by rw [na14] <;> rfl) ?_
      replace hf := zo_b hf; obtain ⟨v15, ev15, hf⟩ := hf
      refine zw_alen S hK hw ev15 zd_X7_manyAhead_36 ?_
      refine lv_icmp_ge (tgt := 85) hx hb zd_X7_manyAhead_37 (by decide) (fun c16 => ?_) (fun c16 => ?_)
      · replace hf := zo_t c16 hf
        have hres := Option.some.inj hf; subst hres
        exact kk _ _ _ hw (lv_sub hl [3] rfl)
      · replace hf := zo_f c16 hf
        refine zl_aload_n hx hb zd_X7_manyAhead_40 rfl (lv_at hl 0 rfl) ?_
        replace hf := zo_b hf; obtain ⟨v17, ev17, hf⟩ := hf
        obtain ⟨u18, u18e, u18v⟩ := zo_b ev17
        obtain rfl := zv_r_e u18v
        refine zw_get S hK hw zk_7 (k := 2) (by decide) rfl zm_250 (Or.inl rfl) u18e zd_X7_manyAhead_41 ?_
        refine lv_iload hx hb zd_X7_manyAhead_44 (lv_at hl 4 rfl) ?_
        replace hf := zo_b hf; obtain ⟨a19, na19, hf⟩ := hf
        refine W.eq (g2 := F0 m 46 ls [.int (y4), va_rf ((some a19))]) (by rw [na19] <;> rfl) ?_
        replace hf := zo_b hf; obtain ⟨v20, ev20, hf⟩ := hf
        refine zw_iald S hK hw ev20 zd_X7_manyAhead_46 ?_
        replace hf := zo_b hf; obtain ⟨r21, er21, hf⟩ := hf
        refine zw_callSN (n := 1) (As := [.int (v20)]) (rest := []) S hK hw (zt_X9_firstOf l g h v20 _ er21) zm_932 zm_474 zq_X9_firstOf zm_68 (by decide +kernel) ⟨Nat.le_of_ble_eq_true rfl, Nat.le_of_ble_eq_true rfl⟩ rfl hl.1 rfl (by simp [zv_cat, zv_ci, zv_cj]) zd_X7_manyAhead_47 ⟨(Nat.le_refl 0), (Nat.le_refl 0)⟩ (fun H locs hw => ?_)
        replace hw : zc_W g h H locs := hw
        refine lv_istore (i := 5) (lv' := [(5, .int (r21)), (0, va_rf ((some q))), (1, .int (y1)), (2, .int (y2)), (3, .int (y3)), (4, .int (y4))]) hx hb zd_X7_manyAhead_50 hl (by decide) rfl (fun ls hl => ?_)
        refine lv_iload hx hb zd_X7_manyAhead_52 (lv_at hl 0 rfl) ?_
        refine lv_iconst (v := (-1)) hx hb zd_X7_manyAhead_54 (by decide) ?_
        have k79h : ∀ (y79_3 : Int32) (H : Heap) (locs : List Loc) (ls : Array Slot), (
            zf_X7_manyAhead_L30 h q y1 y2 n y79_3 (y4 + 1)
            ) = some w → zc_W g h H locs → lv_has ls 6 [(0, va_rf ((some q))), (1, .int (y1)), (2, .int (y2)), (3, .int (y79_3)), (4, .int (y4))] → W p l e zr_X7_manyAhead s m [va_rf ((some q)), .int (x1)].toArray below meth c H locs (0 + 0) (0 + 0) (zc_Q g below zr_X7_manyAhead (some (.int (res))) h [va_rf ((some q)), .int (x1)] s) (F0 m 79 ls []) := by
          intro y79_3 H locs ls hf hw hl
          refine lv_iinc (i := 4) (v := (y4 + 1)) (lv' := [(4, .int ((y4 + 1))), (0, va_rf ((some q))), (1, .int (y1)), (2, .int (y2)), (3, .int (y79_3))]) hx hb zd_X7_manyAhead_79 hl (k := 4) rfl (congrArg (_ + ·) (by decide)) (by decide) rfl (fun ls hl => ?_)
          refine lv_goto (tgt := 30) hx hb zd_X7_manyAhead_82 (by decide) ?_
          exact ih y79_3 (y4 + 1) _ _ _ _ hf hw (lv_sub hl [1, 2, 3, 4, 0] rfl) kk
        refine lv_icmp_eq (tgt := 79) hx hb zd_X7_manyAhead_55 (by decide) (fun c22 => ?_) (fun c22 => ?_)
        · replace hf := zo_t c22 hf
          exact k79h y3 _ _ _ hf hw (lv_sub hl [1, 2, 3, 4, 5] rfl)
        · replace hf := zo_f c22 hf
          refine lv_iload hx hb zd_X7_manyAhead_58 (lv_at hl 0 rfl) ?_
          refine lv_iload_n hx hb zd_X7_manyAhead_60 rfl (lv_at hl 3 rfl) ?_
          have k76h : ∀ (_ : Unit) (H : Heap) (locs : List Loc) (ls : Array Slot), (
              let k79 := fun (y79_3 : Int32) =>
                zf_X7_manyAhead_L30 h q y1 y2 n y79_3 (y4 + 1)
              k79 (y3 + 1)
              ) = some w → zc_W g h H locs → lv_has ls 6 [(0, va_rf ((some q))), (1, .int (y1)), (2, .int (y2)), (3, .int (y3)), (4, .int (y4))] → W p l e zr_X7_manyAhead s m [va_rf ((some q)), .int (x1)].toArray below meth c H locs (0 + 0) (0 + 0) (zc_Q g below zr_X7_manyAhead (some (.int (res))) h [va_rf ((some q)), .int (x1)] s) (F0 m 76 ls []) := by
            intro _ H locs ls hf hw hl
            refine lv_iinc (i := 3) (v := (y3 + 1)) (lv' := [(3, .int ((y3 + 1))), (0, va_rf ((some q))), (1, .int (y1)), (2, .int (y2)), (4, .int (y4))]) hx hb zd_X7_manyAhead_76 hl (k := 3) rfl (congrArg (_ + ·) (by decide)) (by decide) rfl (fun ls hl => ?_)
            exact k79h (y3 + 1) _ _ _ hf hw (lv_sub hl [1, 2, 3, 0, 4] rfl)
          refine lv_icmp_lt (tgt := 76) hx hb zd_X7_manyAhead_61 (by decide) (fun c23 => ?_) (fun c23 => ?_)
          · replace hf := zo_t c23 hf
            exact k76h () _ _ _ hf hw (lv_sub hl [1, 2, 3, 4, 5] rfl)
          · replace hf := zo_f c23 hf
            refine lv_iload hx hb zd_X7_manyAhead_64 (lv_at hl 0 rfl) ?_
            refine lv_iload_n hx hb zd_X7_manyAhead_66 rfl (lv_at hl 3 rfl) ?_
            refine lv_icmp_ne (tgt := 79) hx hb zd_X7_manyAhead_67 (by decide) (fun c24 => ?_) (fun c24 => ?_)
            · replace hf := zo_f c24 hf
              exact k79h y3 _ _ _ hf hw (lv_sub hl [1, 2, 3, 4, 5] rfl)
            · replace hf := zo_t c24 hf
              refine lv_iload hx hb zd_X7_manyAhead_70 (lv_at hl 5 rfl) ?_
              refine lv_iload_n hx hb zd_X7_manyAhead_72 rfl (lv_at hl 2 rfl) ?_
              refine lv_icmp_ge (tgt := 79) hx hb zd_X7_manyAhead_73 (by decide) (fun c25 => ?_) (fun c25 => ?_)
              · replace hf := zo_t c25 hf
                exact k79h y3 _ _ _ hf hw (lv_sub hl [1, 2, 3, 4, 5] rfl)
              · replace hf := zo_f c25 hf
                exact k76h () _ _ _ hf hw (lv_sub hl [1, 2, 3, 4, 5] rfl)
  unfold zf_X7_manyAhead at hf
  obtain ⟨-, hf⟩ := zo_n hf
  refine lv_iload_n hx hb zd_X7_manyAhead_0 rfl (lv_at hl 1 rfl) ?_
  refine lv_if_lt (tgt := 13) hx hb zd_X7_manyAhead_1 (by decide) (fun c1 => ?_) (fun c1 => ?_)
  · replace hf := zo_t c1 hf
    refine lv_iconst (v := (-1)) hx hb zd_X7_manyAhead_13 (by decide) ?_
    have hres := Option.some.inj hf; subst hres
    exact zw_iret (v := (-1)) (ty := .int) hx hb hr hlk rfl hw zd_X7_manyAhead_14 (Nat.le_refl 0) (Nat.le_refl 0)
  · replace hf := zo_f c1 hf
    refine lv_iload_n hx hb zd_X7_manyAhead_4 rfl (lv_at hl 1 rfl) ?_
    refine zl_aload_n hx hb zd_X7_manyAhead_5 rfl (lv_at hl 0 rfl) ?_
    replace hf := zo_b hf; obtain ⟨v2, ev2, hf⟩ := hf
    obtain ⟨u3, u3e, u3v⟩ := zo_b ev2
    obtain rfl := zv_r_e u3v
    refine zw_get S hK hw zk_7 (k := 2) (by decide) rfl zm_250 (Or.inl rfl) u3e zd_X7_manyAhead_6 ?_
    replace hf := zo_b hf; obtain ⟨a4, na4, hf⟩ := hf
    refine W.eq (g2 := F0 m 9 ls [va_rf ((some a4)), .int (x1)]) (by rw [na4] <;> rfl) ?_
    replace hf := zo_b hf; obtain ⟨v5, ev5, hf⟩ := hf
    refine zw_alen S hK hw ev5 zd_X7_manyAhead_9 ?_
    refine lv_icmp_lt (tgt := 15) hx hb zd_X7_manyAhead_10 (by decide) (fun c6 => ?_) (fun c6 => ?_)
    · replace hf := zo_t c6 hf
      refine zl_aload_n hx hb zd_X7_manyAhead_15 rfl (lv_at hl 0 rfl) ?_
      replace hf := zo_b hf; obtain ⟨v7, ev7, hf⟩ := hf
      obtain ⟨u8, u8e, u8v⟩ := zo_b ev7
      obtain rfl := zv_r_e u8v
      refine zw_get S hK hw zk_7 (k := 2) (by decide) rfl zm_250 (Or.inl rfl) u8e zd_X7_manyAhead_16 ?_
      refine lv_iload_n hx hb zd_X7_manyAhead_19 rfl (lv_at hl 1 rfl) ?_
      replace hf := zo_b hf; obtain ⟨a9, na9, hf⟩ := hf
      refine W.eq (g2 := F0 m 20 ls [.int (x1), va_rf ((some a9))]) (by rw [na9] <;> rfl) ?_
      replace hf := zo_b hf; obtain ⟨v10, ev10, hf⟩ := hf
      refine zw_iald S hK hw ev10 zd_X7_manyAhead_20 ?_
      replace hf := zo_b hf; obtain ⟨r11, er11, hf⟩ := hf
      refine zw_callSN (n := 1) (As := [.int (v10)]) (rest := []) S hK hw (zt_X9_firstOf l g h v10 _ er11) zm_932 zm_474 zq_X9_firstOf zm_68 (by decide +kernel) ⟨Nat.le_of_ble_eq_true rfl, Nat.le_of_ble_eq_true rfl⟩ rfl hl.1 rfl (by simp [zv_cat, zv_ci, zv_cj]) zd_X7_manyAhead_21 ⟨(Nat.le_refl 0), (Nat.le_refl 0)⟩ (fun H locs hw => ?_)
      replace hw : zc_W g h H locs := hw
      refine lv_istore_n (i := 2) (lv' := [(2, .int (r11)), (0, va_rf ((some q))), (1, .int (x1))]) hx hb zd_X7_manyAhead_24 rfl hl (by decide) rfl (fun ls hl => ?_)
      refine lv_iconst (v := 0) hx hb zd_X7_manyAhead_25 (by decide) ?_
      refine lv_istore_n (i := 3) (lv' := [(3, .int (0)), (2, .int (r11)), (0, va_rf ((some q))), (1, .int (x1))]) hx hb zd_X7_manyAhead_26 rfl hl (by decide) rfl (fun ls hl => ?_)
      refine lv_iconst (v := 0) hx hb zd_X7_manyAhead_27 (by decide) ?_
      refine lv_istore (i := 4) (lv' := [(4, .int (0)), (3, .int (0)), (2, .int (r11)), (0, va_rf ((some q))), (1, .int (x1))]) hx hb zd_X7_manyAhead_28 hl (by decide) rfl (fun ls hl => ?_)
      replace hf := zo_b hf; obtain ⟨w26, w26e, hf⟩ := hf
      refine L30 h x1 r11 2000 0 0 _ _ _ _ w26e hw (lv_sub hl [3, 4, 2, 1, 0] rfl) (fun H locs ls hw hl => ?_)
      refine lv_iload_n hx hb zd_X7_manyAhead_85 rfl (lv_at hl 0 rfl) ?_
      have hres := Option.some.inj hf; subst hres
      exact zw_iret (v := w26) (ty := .int) hx hb hr hlk rfl hw zd_X7_manyAhead_86 (Nat.le_refl 0) (Nat.le_refl 0)
    · replace hf := zo_f c6 hf
      refine lv_iconst (v := (-1)) hx hb zd_X7_manyAhead_13 (by decide) ?_
      have hres := Option.some.inj hf; subst hres
      exact zw_iret (v := (-1)) (ty := .int) hx hb hr hlk rfl hw zd_X7_manyAhead_14 (Nat.le_refl 0) (Nat.le_refl 0)
def zf_X7_inOrderAt_L2 (h : zc_H) (q : Nat) (y1 : Int32) : Nat → Int32 → Option ((Unit) ⊕ (Int32))
  | 0, _ => none
  | n + 1, y2 =>
    (zf_gr h q 7 2).bind fun v1 =>
    v1.bind fun a3 =>
    (zf_len h a3).bind fun v4 =>
    if v4 ≤ y2 then
      some (.inl ())
    else
    (zf_gr h q 7 2).bind fun v6 =>
    v6.bind fun a8 =>
    (zf_ai h a8 0 y2).bind fun v9 =>
    let k32 := fun (_ : Unit) =>
      zf_X7_inOrderAt_L2 h q y1 n (y2 + 1)
    if v9 = (-1) then
      k32 ()
    else
    (zf_X7_manyAhead h q y2).bind fun r11 =>
    if r11 = y1 then
      some (.inr y2)
    else
    k32 ()
def zf_X7_inOrderAt (h : zc_H) (q : Nat) (x1 : Int32) : Option (Int32) :=
  if ¬ zf_is h q 7 = true then none else
  (zf_X7_inOrderAt_L2 h q x1 2000 0).bind fun w13 =>
  Sum.elim (fun t14 =>
    some (-1)
    ) (fun t15 =>
    some t15
    ) w13
abbrev zr_X7_inOrderAt : Room := { frames := 2, cells := 0, slots := 0, locals := 45 }
theorem zi_X7_inOrderAt {h : zc_H} {q : Nat} {x1 : Int32} {res : Int32} (hf : zf_X7_inOrderAt h q x1 = some res) : zf_is h q 7 = true := Decidable.not_not.mp (zo_n hf).1
set_option maxHeartbeats 4000000 in
set_option maxRecDepth 20000 in
theorem zt_X7_inOrderAt (l : Launch) (g : zc_G) (h : zc_H) (q : Nat) (x1 : Int32) (res : Int32) (hf : zf_X7_inOrderAt h q x1 = some res) : zc_M l g yX7_inOrderAt cX7_inOrderAt 3 (some .int) zr_X7_inOrderAt h [va_rf ((some q)), .int (x1)] h (some (.int (res))) := by
  refine zc_M.of (by decide) (by simp [lg_sl, zv_cat, zv_ci, zv_cj]) ?_
  intro p e s m below meth c ls S hK hw hr hlk hnm hl
  replace S : CallFix p m c cX7_inOrderAt 3 s [va_rf ((some q)), .int (x1)].toArray (zc_ws yX7_inOrderAt cX7_inOrderAt 3 (some .int)) RX7 := S
  have hx := S.1
  have hb := S.2.1
  replace hl : lv_has ls 3 [(0, va_rf ((some q))), (1, .int (x1))] := by simpa [lv_args, zv_cat, zv_ci, zv_cj] using hl
  generalize s.heap = H at hw ⊢
  obtain ⟨locs, hlocs⟩ : ∃ L : List Loc, L = [] := ⟨_, rfl⟩
  rw [← hlocs] at hw ⊢
  have L2 : ∀ (h : zc_H) (y1 : Int32) (n : Nat) (y2 : Int32) (w : (Unit) ⊕ (Int32)) (H : Heap) (locs : List Loc) (ls : Array Slot), zf_X7_inOrderAt_L2 h q y1 n y2 = some w → zc_W g h H locs → lv_has ls 3 [(0, va_rf ((some q))), (1, .int (y1)), (2, .int (y2))] → (∀ (t : Unit) (H : Heap) (locs : List Loc) (ls : Array Slot), w = (.inl t) → zc_W g h H locs → lv_has ls 3 [] → W p l e zr_X7_inOrderAt s m [va_rf ((some q)), .int (x1)].toArray below meth c H locs 0 0 (zc_Q g below zr_X7_inOrderAt (some (.int (res))) h [va_rf ((some q)), .int (x1)] s) (F0 m 38 ls [])) → (∀ (t : Int32) (H : Heap) (locs : List Loc) (ls : Array Slot), w = (.inr t) → zc_W g h H locs → lv_has ls 3 [(2, .int (t))] → W p l e zr_X7_inOrderAt s m [va_rf ((some q)), .int (x1)].toArray below meth c H locs 0 0 (zc_Q g below zr_X7_inOrderAt (some (.int (res))) h [va_rf ((some q)), .int (x1)] s) (F0 m 30 ls [])) → W p l e zr_X7_inOrderAt s m [va_rf ((some q)), .int (x1)].toArray below meth c H locs 0 0 (zc_Q g below zr_X7_inOrderAt (some (.int (res))) h [va_rf ((some q)), .int (x1)] s) (F0 m 2 ls []) := by
    intro h y1 n
    induction n with
    | zero =>
      intro y2 w H locs ls hf
      cases hf
    | succ n ih =>
      intro y2 w H locs ls hf hw hl  kk1 kk2
      unfold zf_X7_inOrderAt_L2 at hf
      refine lv_iload_n hx hb zd_X7_inOrderAt_2 rfl (lv_at hl 2 rfl) ?_
      refine zl_aload_n hx hb zd_X7_inOrderAt_3 rfl (lv_at hl 0 rfl) ?_
      replace hf := zo_b hf; obtain ⟨v1, ev1, hf⟩ := hf
      obtain ⟨u2, u2e, u2v⟩ := zo_b ev1
      obtain rfl := zv_r_e u2v
      refine zw_get S hK hw zk_7 (k := 2) (by decide) rfl zm_250 (Or.inl rfl) u2e zd_X7_inOrderAt_4 ?_
      replace hf := zo_b hf; obtain ⟨a3, na3, hf⟩ := hf
      refine W.eq (g2 := F0 m 7 ls [va_rf ((some a3)), .int (y2)]) (by rw [na3] <;> rfl) ?_
      replace hf := zo_b hf; obtain ⟨v4, ev4, hf⟩ := hf
      refine zw_alen S hK hw ev4 zd_X7_inOrderAt_7 ?_
      refine lv_icmp_ge (tgt := 38) hx hb zd_X7_inOrderAt_8 (by decide) (fun c5 => ?_) (fun c5 => ?_)
      · replace hf := zo_t c5 hf
        have hres := Option.some.inj hf; subst hres
        exact kk1 _ _ _ _ rfl hw (lv_sub hl [] rfl)
      · replace hf := zo_f c5 hf
        refine zl_aload_n hx hb zd_X7_inOrderAt_11 rfl (lv_at hl 0 rfl) ?_
        replace hf := zo_b hf; obtain ⟨v6, ev6, hf⟩ := hf
        obtain ⟨u7, u7e, u7v⟩ := zo_b ev6
        obtain rfl := zv_r_e u7v
        refine zw_get S hK hw zk_7 (k := 2) (by decide) rfl zm_250 (Or.inl rfl) u7e zd_X7_inOrderAt_12 ?_
        refine lv_iload_n hx hb zd_X7_inOrderAt_15 rfl (lv_at hl 2 rfl) ?_
        replace hf := zo_b hf; obtain ⟨a8, na8, hf⟩ := hf
        refine W.eq (g2 := F0 m 16 ls [.int (y2), va_rf ((some a8))]) (by rw [na8] <;> rfl) ?_
        replace hf := zo_b hf; obtain ⟨v9, ev9, hf⟩ := hf
        refine zw_iald S hK hw ev9 zd_X7_inOrderAt_16 ?_
        refine lv_iconst (v := (-1)) hx hb zd_X7_inOrderAt_17 (by decide) ?_
        have k32h : ∀ (_ : Unit) (H : Heap) (locs : List Loc) (ls : Array Slot), (
            zf_X7_inOrderAt_L2 h q y1 n (y2 + 1)
            ) = some w → zc_W g h H locs → lv_has ls 3 [(0, va_rf ((some q))), (1, .int (y1)), (2, .int (y2))] → W p l e zr_X7_inOrderAt s m [va_rf ((some q)), .int (x1)].toArray below meth c H locs 0 0 (zc_Q g below zr_X7_inOrderAt (some (.int (res))) h [va_rf ((some q)), .int (x1)] s) (F0 m 32 ls []) := by
          intro _ H locs ls hf hw hl
          refine lv_iinc (i := 2) (v := (y2 + 1)) (lv' := [(2, .int ((y2 + 1))), (0, va_rf ((some q))), (1, .int (y1))]) hx hb zd_X7_inOrderAt_32 hl (k := 2) rfl (congrArg (_ + ·) (by decide)) (by decide) rfl (fun ls hl => ?_)
          refine lv_goto (tgt := 2) hx hb zd_X7_inOrderAt_35 (by decide) ?_
          exact ih (y2 + 1) _ _ _ _ hf hw (lv_sub hl [1, 2, 0] rfl) kk1 kk2
        refine lv_icmp_eq (tgt := 32) hx hb zd_X7_inOrderAt_18 (by decide) (fun c10 => ?_) (fun c10 => ?_)
        · replace hf := zo_t c10 hf
          exact k32h () _ _ _ hf hw (lv_sub hl [0, 1, 2] rfl)
        · replace hf := zo_f c10 hf
          refine zl_aload_n hx hb zd_X7_inOrderAt_21 rfl (lv_at hl 0 rfl) ?_
          refine lv_iload_n hx hb zd_X7_inOrderAt_22 rfl (lv_at hl 2 rfl) ?_
          replace hf := zo_b hf; obtain ⟨r11, er11, hf⟩ := hf
          refine zw_callV (n := 1) (ci := 7) (q := zc_cl[7]) (As := [.int (y2)]) (rest := []) S hK hw (zt_X7_manyAhead l g h q y2 _ er11) zm_928 zm_930 zm_18 zq_X7_manyAhead zm_76 (by decide +kernel) ⟨Nat.le_of_ble_eq_true rfl, Nat.le_of_ble_eq_true rfl⟩ rfl rfl rfl (zi_X7_manyAhead er11) hl.1 rfl (by simp [zv_cat, zv_ci, zv_cj]) zd_X7_inOrderAt_23 ⟨(Nat.le_refl 0), (Nat.le_refl 0)⟩ (fun H locs hw => ?_)
          replace hw : zc_W g h H locs := hw
          refine lv_iload_n hx hb zd_X7_inOrderAt_26 rfl (lv_at hl 1 rfl) ?_
          refine lv_icmp_ne (tgt := 32) hx hb zd_X7_inOrderAt_27 (by decide) (fun c12 => ?_) (fun c12 => ?_)
          · replace hf := zo_f c12 hf
            exact k32h () _ _ _ hf hw (lv_sub hl [0, 1, 2] rfl)
          · replace hf := zo_t c12 hf
            have hres := Option.some.inj hf; subst hres
            exact kk2 _ _ _ _ rfl hw (lv_sub hl [2] rfl)
  unfold zf_X7_inOrderAt at hf
  obtain ⟨-, hf⟩ := zo_n hf
  refine lv_iconst (v := 0) hx hb zd_X7_inOrderAt_0 (by decide) ?_
  refine lv_istore_n (i := 2) (lv' := [(2, .int (0)), (0, va_rf ((some q))), (1, .int (x1))]) hx hb zd_X7_inOrderAt_1 rfl hl (by decide) rfl (fun ls hl => ?_)
  replace hf := zo_b hf; obtain ⟨w13, w13e, hf⟩ := hf
  refine L2 h x1 2000 0 _ _ _ _ w13e hw (lv_sub hl [1, 2, 0] rfl) ?_ ?_
  · intro t14 H locs ls exw13 hw hl
    rw [exw13] at hf
    simp only [Sum.elim_inl, Sum.elim_inr] at hf
    refine lv_iconst (v := (-1)) hx hb zd_X7_inOrderAt_38 (by decide) ?_
    have hres := Option.some.inj hf; subst hres
    exact zw_iret (v := (-1)) (ty := .int) hx hb hr hlk rfl hw zd_X7_inOrderAt_39 (Nat.le_refl 0) (Nat.le_refl 0)
  · intro t15 H locs ls exw13 hw hl
    rw [exw13] at hf
    simp only [Sum.elim_inl, Sum.elim_inr] at hf
    refine lv_iload_n hx hb zd_X7_inOrderAt_30 rfl (lv_at hl 0 rfl) ?_
    have hres := Option.some.inj hf; subst hres
    exact zw_iret (v := t15) (ty := .int) hx hb hr hlk rfl hw zd_X7_inOrderAt_31 (Nat.le_refl 0) (Nat.le_refl 0)
def zf_X7_heatOf_L4 (h : zc_H) (q : Nat) (y1 : Int32) : Nat → Int32 → Int32 → Option (Int32)
  | 0, _, _ => none
  | n + 1, y2, y3 =>
    (zf_gr h q 7 2).bind fun v1 =>
    v1.bind fun a3 =>
    (zf_len h a3).bind fun v4 =>
    if v4 ≤ y3 then
      some y2
    else
    (zf_gr h q 7 2).bind fun v6 =>
    v6.bind fun a8 =>
    (zf_ai h a8 0 y3).bind fun v9 =>
    let k52 := fun (y52_2 : Int32) =>
      zf_X7_heatOf_L4 h q y1 n y52_2 (y3 + 1)
    if v9 = (-1) then
      k52 y2
    else
    (zf_gr h q 7 2).bind fun v11 =>
    v11.bind fun a13 =>
    (zf_ai h a13 0 y3).bind fun v14 =>
    (zf_X9_firstOf h v14).bind fun r15 =>
    if y1 < r15 then
      k52 y2
    else
    (zf_gr h q 7 2).bind fun v17 =>
    v17.bind fun a19 =>
    (zf_ai h a19 0 y3).bind fun v20 =>
    (zf_X9_lastOf h v20).bind fun r21 =>
    if r21 < y1 then
      k52 y2
    else
    k52 (y2 + 1)
def zf_X7_heatOf (h : zc_H) (q : Nat) (x1 : Int32) : Option (Int32) :=
  if ¬ zf_is h q 7 = true then none else
  (zf_X7_heatOf_L4 h q x1 2000 0 0).bind fun w23 =>
  some w23
abbrev zr_X7_heatOf : Room := { frames := 1, cells := 0, slots := 0, locals := 20 }
theorem zi_X7_heatOf {h : zc_H} {q : Nat} {x1 : Int32} {res : Int32} (hf : zf_X7_heatOf h q x1 = some res) : zf_is h q 7 = true := Decidable.not_not.mp (zo_n hf).1
set_option maxHeartbeats 4000000 in
set_option maxRecDepth 20000 in
theorem zt_X7_heatOf (l : Launch) (g : zc_G) (h : zc_H) (q : Nat) (x1 : Int32) (res : Int32) (hf : zf_X7_heatOf h q x1 = some res) : zc_M l g yX7_heatOf cX7_heatOf 4 (some .int) zr_X7_heatOf h [va_rf ((some q)), .int (x1)] h (some (.int (res))) := by
  refine zc_M.of (by decide) (by simp [lg_sl, zv_cat, zv_ci, zv_cj]) ?_
  intro p e s m below meth c ls S hK hw hr hlk hnm hl
  replace S : CallFix p m c cX7_heatOf 4 s [va_rf ((some q)), .int (x1)].toArray (zc_ws yX7_heatOf cX7_heatOf 4 (some .int)) RX7 := S
  have hx := S.1
  have hb := S.2.1
  replace hl : lv_has ls 4 [(0, va_rf ((some q))), (1, .int (x1))] := by simpa [lv_args, zv_cat, zv_ci, zv_cj] using hl
  generalize s.heap = H at hw ⊢
  obtain ⟨locs, hlocs⟩ : ∃ L : List Loc, L = [] := ⟨_, rfl⟩
  rw [← hlocs] at hw ⊢
  have L4 : ∀ (h : zc_H) (y1 : Int32) (n : Nat) (y2 : Int32) (y3 : Int32) (w : Int32) (H : Heap) (locs : List Loc) (ls : Array Slot), zf_X7_heatOf_L4 h q y1 n y2 y3 = some w → zc_W g h H locs → lv_has ls 4 [(0, va_rf ((some q))), (1, .int (y1)), (2, .int (y2)), (3, .int (y3))] → (∀ (H : Heap) (locs : List Loc) (ls : Array Slot), zc_W g h H locs → lv_has ls 4 [(2, .int (w))] → W p l e zr_X7_heatOf s m [va_rf ((some q)), .int (x1)].toArray below meth c H locs 0 0 (zc_Q g below zr_X7_heatOf (some (.int (res))) h [va_rf ((some q)), .int (x1)] s) (F0 m 58 ls [])) → W p l e zr_X7_heatOf s m [va_rf ((some q)), .int (x1)].toArray below meth c H locs 0 0 (zc_Q g below zr_X7_heatOf (some (.int (res))) h [va_rf ((some q)), .int (x1)] s) (F0 m 4 ls []) := by
    intro h y1 n
    induction n with
    | zero =>
      intro y2 y3 w H locs ls hf
      cases hf
    | succ n ih =>
      intro y2 y3 w H locs ls hf hw hl  kk
      unfold zf_X7_heatOf_L4 at hf
      refine lv_iload_n hx hb zd_X7_heatOf_4 rfl (lv_at hl 3 rfl) ?_
      refine zl_aload_n hx hb zd_X7_heatOf_5 rfl (lv_at hl 0 rfl) ?_
      replace hf := zo_b hf; obtain ⟨v1, ev1, hf⟩ := hf
      obtain ⟨u2, u2e, u2v⟩ := zo_b ev1
      obtain rfl := zv_r_e u2v
      refine zw_get S hK hw zk_7 (k := 2) (by decide) rfl zm_250 (Or.inl rfl) u2e zd_X7_heatOf_6 ?_
      replace hf := zo_b hf; obtain ⟨a3, na3, hf⟩ := hf
      refine W.eq (g2 := F0 m 9 ls [va_rf ((some a3)), .int (y3)]) (by rw [na3] <;> rfl) ?_
      replace hf := zo_b hf; obtain ⟨v4, ev4, hf⟩ := hf
      refine zw_alen S hK hw ev4 zd_X7_heatOf_9 ?_
      refine lv_icmp_ge (tgt := 58) hx hb zd_X7_heatOf_10 (by decide) (fun c5 => ?_) (fun c5 => ?_)
      · replace hf := zo_t c5 hf
        have hres := Option.some.inj hf; subst hres
        exact kk _ _ _ hw (lv_sub hl [2] rfl)
      · replace hf := zo_f c5 hf
        refine zl_aload_n hx hb zd_X7_heatOf_13 rfl (lv_at hl 0 rfl) ?_
        replace hf := zo_b hf; obtain ⟨v6, ev6, hf⟩ := hf
        obtain ⟨u7, u7e, u7v⟩ := zo_b ev6
        obtain rfl := zv_r_e u7v
        refine zw_get S hK hw zk_7 (k := 2) (by decide) rfl zm_250 (Or.inl rfl) u7e zd_X7_heatOf_14 ?_
        refine lv_iload_n hx hb zd_X7_heatOf_17 rfl (lv_at hl 3 rfl) ?_
        replace hf := zo_b hf; obtain ⟨a8, na8, hf⟩ := hf
        refine W.eq (g2 := F0 m 18 ls [.int (y3), va_rf ((some a8))]) (by rw [na8] <;> rfl) ?_
        replace hf := zo_b hf; obtain ⟨v9, ev9, hf⟩ := hf
        refine zw_iald S hK hw ev9 zd_X7_heatOf_18 ?_
        refine lv_iconst (v := (-1)) hx hb zd_X7_heatOf_19 (by decide) ?_
        have k52h : ∀ (y52_2 : Int32) (H : Heap) (locs : List Loc) (ls : Array Slot), (
            zf_X7_heatOf_L4 h q y1 n y52_2 (y3 + 1)
            ) = some w → zc_W g h H locs → lv_has ls 4 [(0, va_rf ((some q))), (1, .int (y1)), (2, .int (y52_2)), (3, .int (y3))] → W p l e zr_X7_heatOf s m [va_rf ((some q)), .int (x1)].toArray below meth c H locs 0 0 (zc_Q g below zr_X7_heatOf (some (.int (res))) h [va_rf ((some q)), .int (x1)] s) (F0 m 52 ls []) := by
          intro y52_2 H locs ls hf hw hl
          refine lv_iinc (i := 3) (v := (y3 + 1)) (lv' := [(3, .int ((y3 + 1))), (0, va_rf ((some q))), (1, .int (y1)), (2, .int (y52_2))]) hx hb zd_X7_heatOf_52 hl (k := 3) rfl (congrArg (_ + ·) (by decide)) (by decide) rfl (fun ls hl => ?_)
          refine lv_goto (tgt := 4) hx hb zd_X7_heatOf_55 (by decide) ?_
          exact ih y52_2 (y3 + 1) _ _ _ _ hf hw (lv_sub hl [1, 2, 3, 0] rfl) kk
        refine lv_icmp_eq (tgt := 52) hx hb zd_X7_heatOf_20 (by decide) (fun c10 => ?_) (fun c10 => ?_)
        · replace hf := zo_t c10 hf
          exact k52h y2 _ _ _ hf hw (lv_sub hl [0, 1, 2, 3] rfl)
        · replace hf := zo_f c10 hf
          refine zl_aload_n hx hb zd_X7_heatOf_23 rfl (lv_at hl 0 rfl) ?_
          replace hf := zo_b hf; obtain ⟨v11, ev11, hf⟩ := hf
          obtain ⟨u12, u12e, u12v⟩ := zo_b ev11
          obtain rfl := zv_r_e u12v
          refine zw_get S hK hw zk_7 (k := 2) (by decide) rfl zm_250 (Or.inl rfl) u12e zd_X7_heatOf_24 ?_
          refine lv_iload_n hx hb zd_X7_heatOf_27 rfl (lv_at hl 3 rfl) ?_
          replace hf := zo_b hf; obtain ⟨a13, na13, hf⟩ := hf
          refine W.eq (g2 := F0 m 28 ls [.int (y3), va_rf ((some a13))]) (by rw [na13] <;> rfl) ?_
          replace hf := zo_b hf; obtain ⟨v14, ev14, hf⟩ := hf
          refine zw_iald S hK hw ev14 zd_X7_heatOf_28 ?_
          replace hf := zo_b hf; obtain ⟨r15, er15, hf⟩ := hf
          refine zw_callSN (n := 1) (As := [.int (v14)]) (rest := []) S hK hw (zt_X9_firstOf l g h v14 _ er15) zm_932 zm_474 zq_X9_firstOf zm_68 (by decide +kernel) ⟨Nat.le_of_ble_eq_true rfl, Nat.le_of_ble_eq_true rfl⟩ rfl hl.1 rfl (by simp [zv_cat, zv_ci, zv_cj]) zd_X7_heatOf_29 ⟨(Nat.le_refl 0), (Nat.le_refl 0)⟩ (fun H locs hw => ?_)
          replace hw : zc_W g h H locs := hw
          refine lv_iload_n hx hb zd_X7_heatOf_32 rfl (lv_at hl 1 rfl) ?_
          refine lv_icmp_gt (tgt := 52) hx hb zd_X7_heatOf_33 (by decide) (fun c16 => ?_) (fun c16 => ?_)
          · replace hf := zo_t c16 hf
            exact k52h y2 _ _ _ hf hw (lv_sub hl [0, 1, 2, 3] rfl)
          · replace hf := zo_f c16 hf
            refine lv_iload_n hx hb zd_X7_heatOf_36 rfl (lv_at hl 1 rfl) ?_
            refine zl_aload_n hx hb zd_X7_heatOf_37 rfl (lv_at hl 0 rfl) ?_
            replace hf := zo_b hf; obtain ⟨v17, ev17, hf⟩ := hf
            obtain ⟨u18, u18e, u18v⟩ := zo_b ev17
            obtain rfl := zv_r_e u18v
            refine zw_get S hK hw zk_7 (k := 2) (by decide) rfl zm_250 (Or.inl rfl) u18e zd_X7_heatOf_38 ?_
            refine lv_iload_n hx hb zd_X7_heatOf_41 rfl (lv_at hl 3 rfl) ?_
            replace hf := zo_b hf; obtain ⟨a19, na19, hf⟩ := hf
            refine W.eq (g2 := F0 m 42 ls [.int (y3), va_rf ((some a19)), .int (y1)]) (by rw [na19] <;> rfl) ?_
            replace hf := zo_b hf; obtain ⟨v20, ev20, hf⟩ := hf
            refine zw_iald S hK hw ev20 zd_X7_heatOf_42 ?_
            replace hf := zo_b hf; obtain ⟨r21, er21, hf⟩ := hf
            refine zw_callSN (n := 1) (As := [.int (v20)]) (rest := [.int (y1)]) S hK hw (zt_X9_lastOf l g h v20 _ er21) zm_945 zm_471 zq_X9_lastOf zm_68 (by decide +kernel) ⟨Nat.le_of_ble_eq_true rfl, Nat.le_of_ble_eq_true rfl⟩ rfl hl.1 rfl (by simp [zv_cat, zv_ci, zv_cj]) zd_X7_heatOf_43 ⟨(Nat.le_refl 0), (Nat.le_refl 0)⟩ (fun H locs hw => ?_)
            replace hw : zc_W g h H locs := hw
            refine lv_icmp_gt (tgt := 52) hx hb zd_X7_heatOf_46 (by decide) (fun c22 => ?_) (fun c22 => ?_)
            · replace hf := zo_t c22 hf
              exact k52h y2 _ _ _ hf hw (lv_sub hl [0, 1, 2, 3] rfl)
            · replace hf := zo_f c22 hf
              refine lv_iinc (i := 2) (v := (y2 + 1)) (lv' := [(2, .int ((y2 + 1))), (0, va_rf ((some q))), (1, .int (y1)), (3, .int (y3))]) hx hb zd_X7_heatOf_49 hl (k := 2) rfl (congrArg (_ + ·) (by decide)) (by decide) rfl (fun ls hl => ?_)
              exact k52h (y2 + 1) _ _ _ hf hw (lv_sub hl [1, 2, 0, 3] rfl)
  unfold zf_X7_heatOf at hf
  obtain ⟨-, hf⟩ := zo_n hf
  refine lv_iconst (v := 0) hx hb zd_X7_heatOf_0 (by decide) ?_
  refine lv_istore_n (i := 2) (lv' := [(2, .int (0)), (0, va_rf ((some q))), (1, .int (x1))]) hx hb zd_X7_heatOf_1 rfl hl (by decide) rfl (fun ls hl => ?_)
  refine lv_iconst (v := 0) hx hb zd_X7_heatOf_2 (by decide) ?_
  refine lv_istore_n (i := 3) (lv' := [(3, .int (0)), (2, .int (0)), (0, va_rf ((some q))), (1, .int (x1))]) hx hb zd_X7_heatOf_3 rfl hl (by decide) rfl (fun ls hl => ?_)
  replace hf := zo_b hf; obtain ⟨w23, w23e, hf⟩ := hf
  refine L4 h x1 2000 0 0 _ _ _ _ w23e hw (lv_sub hl [2, 3, 1, 0] rfl) (fun H locs ls hw hl => ?_)
  refine lv_iload_n hx hb zd_X7_heatOf_58 rfl (lv_at hl 0 rfl) ?_
  have hres := Option.some.inj hf; subst hres
  exact zw_iret (v := w23) (ty := .int) hx hb hr hlk rfl hw zd_X7_heatOf_59 (Nat.le_refl 0) (Nat.le_refl 0)
def zf_X7_hottestOf_L8 (h : zc_H) (q : Nat) (y1 : Int32) : Nat → Int32 → Int32 → Int32 → Option (Int32)
  | 0, _, _, _ => none
  | n + 1, y2, y3, y4 =>
    if y1 ≤ y4 then
      some y3
    else
    (zf_X7_heatOf h q y4).bind fun r2 =>
    let k34 := fun (y34_2 : Int32) (y34_3 : Int32) =>
      zf_X7_hottestOf_L8 h q y1 n y34_2 y34_3 (y4 + 1)
    if r2 ≤ y2 then
      k34 y2 y3
    else
    k34 r2 y4
def zf_X7_hottestOf (h : zc_H) (q : Nat) (x1 : Int32) : Option (Int32) :=
  if ¬ zf_is h q 7 = true then none else
  (zf_X7_hottestOf_L8 h q x1 2000 0 99 0).bind fun w4 =>
  some w4
abbrev zr_X7_hottestOf : Room := { frames := 2, cells := 0, slots := 0, locals := 43 }
theorem zi_X7_hottestOf {h : zc_H} {q : Nat} {x1 : Int32} {res : Int32} (hf : zf_X7_hottestOf h q x1 = some res) : zf_is h q 7 = true := Decidable.not_not.mp (zo_n hf).1
set_option maxHeartbeats 4000000 in
set_option maxRecDepth 20000 in
theorem zt_X7_hottestOf (l : Launch) (g : zc_G) (h : zc_H) (q : Nat) (x1 : Int32) (res : Int32) (hf : zf_X7_hottestOf h q x1 = some res) : zc_M l g yX7_hottestOf cX7_hottestOf 6 (some .int) zr_X7_hottestOf h [va_rf ((some q)), .int (x1)] h (some (.int (res))) := by
  refine zc_M.of (by decide) (by simp [lg_sl, zv_cat, zv_ci, zv_cj]) ?_
  intro p e s m below meth c ls S hK hw hr hlk hnm hl
  replace S : CallFix p m c cX7_hottestOf 6 s [va_rf ((some q)), .int (x1)].toArray (zc_ws yX7_hottestOf cX7_hottestOf 6 (some .int)) RX7 := S
  have hx := S.1
  have hb := S.2.1
  replace hl : lv_has ls 6 [(0, va_rf ((some q))), (1, .int (x1))] := by simpa [lv_args, zv_cat, zv_ci, zv_cj] using hl
  generalize s.heap = H at hw ⊢
  obtain ⟨locs, hlocs⟩ : ∃ L : List Loc, L = [] := ⟨_, rfl⟩
  rw [← hlocs] at hw ⊢
  have L8 : ∀ (h : zc_H) (y1 : Int32) (n : Nat) (y2 : Int32) (y3 : Int32) (y4 : Int32) (w : Int32) (H : Heap) (locs : List Loc) (ls : Array Slot), zf_X7_hottestOf_L8 h q y1 n y2 y3 y4 = some w → zc_W g h H locs → lv_has ls 6 [(0, va_rf ((some q))), (1, .int (y1)), (2, .int (y2)), (3, .int (y3)), (4, .int (y4))] → (∀ (H : Heap) (locs : List Loc) (ls : Array Slot), zc_W g h H locs → lv_has ls 6 [(3, .int (w))] → W p l e zr_X7_hottestOf s m [va_rf ((some q)), .int (x1)].toArray below meth c H locs 0 0 (zc_Q g below zr_X7_hottestOf (some (.int (res))) h [va_rf ((some q)), .int (x1)] s) (F0 m 40 ls [])) → W p l e zr_X7_hottestOf s m [va_rf ((some q)), .int (x1)].toArray below meth c H locs 0 0 (zc_Q g below zr_X7_hottestOf (some (.int (res))) h [va_rf ((some q)), .int (x1)] s) (F0 m 8 ls []) := by
    intro h y1 n
    induction n with
    | zero =>
      intro y2 y3 y4 w H locs ls hf
      cases hf
    | succ n ih =>
      intro y2 y3 y4 w H locs ls hf hw hl  kk
      unfold zf_X7_hottestOf_L8 at hf
      refine lv_iload hx hb zd_X7_hottestOf_8 (lv_at hl 4 rfl) ?_
      refine lv_iload_n hx hb zd_X7_hottestOf_10 rfl (lv_at hl 1 rfl) ?_
      refine lv_icmp_ge (tgt := 40) hx hb zd_X7_hottestOf_11 (by decide) (fun c1 => ?_) (fun c1 => ?_)
      · replace hf := zo_t c1 hf
        have hres := Option.some.inj hf; subst hres
        exact kk _ _ _ hw (lv_sub hl [3] rfl)
      · replace hf := zo_f c1 hf
        refine zl_aload_n hx hb zd_X7_hottestOf_14 rfl (lv_at hl 0 rfl) ?_
        refine lv_iload hx hb zd_X7_hottestOf_15 (lv_at hl 4 rfl) ?_
        replace hf := zo_b hf; obtain ⟨r2, er2, hf⟩ := hf
        refine zw_callV (n := 1) (ci := 7) (q := zc_cl[7]) (As := [.int (y4)]) (rest := []) S hK hw (zt_X7_heatOf l g h q y4 _ er2) zm_941 zm_943 zm_19 zq_X7_heatOf zm_76 (by decide +kernel) ⟨Nat.le_of_ble_eq_true rfl, Nat.le_of_ble_eq_true rfl⟩ rfl rfl rfl (zi_X7_heatOf er2) hl.1 rfl (by simp [zv_cat, zv_ci, zv_cj]) zd_X7_hottestOf_17 ⟨(Nat.le_refl 0), (Nat.le_refl 0)⟩ (fun H locs hw => ?_)
        replace hw : zc_W g h H locs := hw
        refine lv_istore (i := 5) (lv' := [(5, .int (r2)), (0, va_rf ((some q))), (1, .int (y1)), (2, .int (y2)), (3, .int (y3)), (4, .int (y4))]) hx hb zd_X7_hottestOf_20 hl (by decide) rfl (fun ls hl => ?_)
        refine lv_iload hx hb zd_X7_hottestOf_22 (lv_at hl 0 rfl) ?_
        refine lv_iload_n hx hb zd_X7_hottestOf_24 rfl (lv_at hl 3 rfl) ?_
        have k34h : ∀ (y34_2 : Int32) (y34_3 : Int32) (H : Heap) (locs : List Loc) (ls : Array Slot), (
            zf_X7_hottestOf_L8 h q y1 n y34_2 y34_3 (y4 + 1)
            ) = some w → zc_W g h H locs → lv_has ls 6 [(0, va_rf ((some q))), (1, .int (y1)), (2, .int (y34_2)), (3, .int (y34_3)), (4, .int (y4))] → W p l e zr_X7_hottestOf s m [va_rf ((some q)), .int (x1)].toArray below meth c H locs (0 + 0) (0 + 0) (zc_Q g below zr_X7_hottestOf (some (.int (res))) h [va_rf ((some q)), .int (x1)] s) (F0 m 34 ls []) := by
          intro y34_2 y34_3 H locs ls hf hw hl
          refine lv_iinc (i := 4) (v := (y4 + 1)) (lv' := [(4, .int ((y4 + 1))), (0, va_rf ((some q))), (1, .int (y1)), (2, .int (y34_2)), (3, .int (y34_3))]) hx hb zd_X7_hottestOf_34 hl (k := 4) rfl (congrArg (_ + ·) (by decide)) (by decide) rfl (fun ls hl => ?_)
          refine lv_goto (tgt := 8) hx hb zd_X7_hottestOf_37 (by decide) ?_
          exact ih y34_2 y34_3 (y4 + 1) _ _ _ _ hf hw (lv_sub hl [1, 2, 3, 4, 0] rfl) kk
        refine lv_icmp_le (tgt := 34) hx hb zd_X7_hottestOf_25 (by decide) (fun c3 => ?_) (fun c3 => ?_)
        · replace hf := zo_t c3 hf
          exact k34h y2 y3 _ _ _ hf hw (lv_sub hl [1, 2, 3, 4, 5] rfl)
        · replace hf := zo_f c3 hf
          refine lv_iload hx hb zd_X7_hottestOf_28 (lv_at hl 0 rfl) ?_
          refine lv_istore_n (i := 2) (lv' := [(2, .int (r2)), (5, .int (r2)), (0, va_rf ((some q))), (1, .int (y1)), (3, .int (y3)), (4, .int (y4))]) hx hb zd_X7_hottestOf_30 rfl hl (by decide) rfl (fun ls hl => ?_)
          refine lv_iload hx hb zd_X7_hottestOf_31 (lv_at hl 5 rfl) ?_
          refine lv_istore_n (i := 3) (lv' := [(3, .int (y4)), (2, .int (r2)), (5, .int (r2)), (0, va_rf ((some q))), (1, .int (y1)), (4, .int (y4))]) hx hb zd_X7_hottestOf_33 rfl hl (by decide) rfl (fun ls hl => ?_)
          exact k34h r2 y4 _ _ _ hf hw (lv_sub hl [3, 4, 1, 0, 5] rfl)
  unfold zf_X7_hottestOf at hf
  obtain ⟨-, hf⟩ := zo_n hf
  refine lv_iconst (v := 0) hx hb zd_X7_hottestOf_0 (by decide) ?_
  refine lv_istore_n (i := 2) (lv' := [(2, .int (0)), (0, va_rf ((some q))), (1, .int (x1))]) hx hb zd_X7_hottestOf_1 rfl hl (by decide) rfl (fun ls hl => ?_)
  refine lv_bipush (v := 99) hx hb zd_X7_hottestOf_2 (by decide) ?_
  refine lv_istore_n (i := 3) (lv' := [(3, .int (99)), (2, .int (0)), (0, va_rf ((some q))), (1, .int (x1))]) hx hb zd_X7_hottestOf_4 rfl hl (by decide) rfl (fun ls hl => ?_)
  refine lv_iconst (v := 0) hx hb zd_X7_hottestOf_5 (by decide) ?_
  refine lv_istore (i := 4) (lv' := [(4, .int (0)), (3, .int (99)), (2, .int (0)), (0, va_rf ((some q))), (1, .int (x1))]) hx hb zd_X7_hottestOf_6 hl (by decide) rfl (fun ls hl => ?_)
  replace hf := zo_b hf; obtain ⟨w4, w4e, hf⟩ := hf
  refine L8 h x1 2000 0 99 0 _ _ _ _ w4e hw (lv_sub hl [3, 4, 2, 1, 0] rfl) (fun H locs ls hw hl => ?_)
  refine lv_iload_n hx hb zd_X7_hottestOf_40 rfl (lv_at hl 0 rfl) ?_
  have hres := Option.some.inj hf; subst hres
  exact zw_iret (v := w4) (ty := .int) hx hb hr hlk rfl hw zd_X7_hottestOf_41 (Nat.le_refl 0) (Nat.le_refl 0)
def zf_X7_linesIn_L4 (h : zc_H) (q : Nat) (y1 : Int32) : Nat → Int32 → Int32 → Option (Int32)
  | 0, _, _ => none
  | n + 1, y2, y3 =>
    if y1 ≤ y3 then
      some y2
    else
    (zf_X7_heatOf h q y3).bind fun r2 =>
    let k23 := fun (y23_2 : Int32) =>
      zf_X7_linesIn_L4 h q y1 n y23_2 (y3 + 1)
    if r2 ≤ 0 then
      k23 y2
    else
    k23 (y2 ||| (1 <<< (y3 &&& 31)))
def zf_X7_linesIn (h : zc_H) (q : Nat) (x1 : Int32) : Option (Int32) :=
  if ¬ zf_is h q 7 = true then none else
  (zf_X7_linesIn_L4 h q x1 2000 0 0).bind fun w4 =>
  some w4
abbrev zr_X7_linesIn : Room := { frames := 2, cells := 0, slots := 0, locals := 43 }
theorem zi_X7_linesIn {h : zc_H} {q : Nat} {x1 : Int32} {res : Int32} (hf : zf_X7_linesIn h q x1 = some res) : zf_is h q 7 = true := Decidable.not_not.mp (zo_n hf).1
set_option maxHeartbeats 4000000 in
set_option maxRecDepth 20000 in
theorem zt_X7_linesIn (l : Launch) (g : zc_G) (h : zc_H) (q : Nat) (x1 : Int32) (res : Int32) (hf : zf_X7_linesIn h q x1 = some res) : zc_M l g yX7_linesIn cX7_linesIn 4 (some .int) zr_X7_linesIn h [va_rf ((some q)), .int (x1)] h (some (.int (res))) := by
  refine zc_M.of (by decide) (by simp [lg_sl, zv_cat, zv_ci, zv_cj]) ?_
  intro p e s m below meth c ls S hK hw hr hlk hnm hl
  replace S : CallFix p m c cX7_linesIn 4 s [va_rf ((some q)), .int (x1)].toArray (zc_ws yX7_linesIn cX7_linesIn 4 (some .int)) RX7 := S
  have hx := S.1
  have hb := S.2.1
  replace hl : lv_has ls 4 [(0, va_rf ((some q))), (1, .int (x1))] := by simpa [lv_args, zv_cat, zv_ci, zv_cj] using hl
  generalize s.heap = H at hw ⊢
  obtain ⟨locs, hlocs⟩ : ∃ L : List Loc, L = [] := ⟨_, rfl⟩
  rw [← hlocs] at hw ⊢
  have L4 : ∀ (h : zc_H) (y1 : Int32) (n : Nat) (y2 : Int32) (y3 : Int32) (w : Int32) (H : Heap) (locs : List Loc) (ls : Array Slot), zf_X7_linesIn_L4 h q y1 n y2 y3 = some w → zc_W g h H locs → lv_has ls 4 [(0, va_rf ((some q))), (1, .int (y1)), (2, .int (y2)), (3, .int (y3))] → (∀ (H : Heap) (locs : List Loc) (ls : Array Slot), zc_W g h H locs → lv_has ls 4 [(2, .int (w))] → W p l e zr_X7_linesIn s m [va_rf ((some q)), .int (x1)].toArray below meth c H locs 0 0 (zc_Q g below zr_X7_linesIn (some (.int (res))) h [va_rf ((some q)), .int (x1)] s) (F0 m 29 ls [])) → W p l e zr_X7_linesIn s m [va_rf ((some q)), .int (x1)].toArray below meth c H locs 0 0 (zc_Q g below zr_X7_linesIn (some (.int (res))) h [va_rf ((some q)), .int (x1)] s) (F0 m 4 ls []) := by
    intro h y1 n
    induction n with
    | zero =>
      intro y2 y3 w H locs ls hf
      cases hf
    | succ n ih =>
      intro y2 y3 w H locs ls hf hw hl  kk
      unfold zf_X7_linesIn_L4 at hf
      refine lv_iload_n hx hb zd_X7_linesIn_4 rfl (lv_at hl 3 rfl) ?_
      refine lv_iload_n hx hb zd_X7_linesIn_5 rfl (lv_at hl 1 rfl) ?_
      refine lv_icmp_ge (tgt := 29) hx hb zd_X7_linesIn_6 (by decide) (fun c1 => ?_) (fun c1 => ?_)
      · replace hf := zo_t c1 hf
        have hres := Option.some.inj hf; subst hres
        exact kk _ _ _ hw (lv_sub hl [2] rfl)
      · replace hf := zo_f c1 hf
        refine zl_aload_n hx hb zd_X7_linesIn_9 rfl (lv_at hl 0 rfl) ?_
        refine lv_iload_n hx hb zd_X7_linesIn_10 rfl (lv_at hl 3 rfl) ?_
        replace hf := zo_b hf; obtain ⟨r2, er2, hf⟩ := hf
        refine zw_callV (n := 1) (ci := 7) (q := zc_cl[7]) (As := [.int (y3)]) (rest := []) S hK hw (zt_X7_heatOf l g h q y3 _ er2) zm_941 zm_943 zm_19 zq_X7_heatOf zm_76 (by decide +kernel) ⟨Nat.le_of_ble_eq_true rfl, Nat.le_of_ble_eq_true rfl⟩ rfl rfl rfl (zi_X7_heatOf er2) hl.1 rfl (by simp [zv_cat, zv_ci, zv_cj]) zd_X7_linesIn_11 ⟨(Nat.le_refl 0), (Nat.le_refl 0)⟩ (fun H locs hw => ?_)
        replace hw : zc_W g h H locs := hw
        have k23h : ∀ (y23_2 : Int32) (H : Heap) (locs : List Loc) (ls : Array Slot), (
            zf_X7_linesIn_L4 h q y1 n y23_2 (y3 + 1)
            ) = some w → zc_W g h H locs → lv_has ls 4 [(0, va_rf ((some q))), (1, .int (y1)), (2, .int (y23_2)), (3, .int (y3))] → W p l e zr_X7_linesIn s m [va_rf ((some q)), .int (x1)].toArray below meth c H locs (0 + 0) (0 + 0) (zc_Q g below zr_X7_linesIn (some (.int (res))) h [va_rf ((some q)), .int (x1)] s) (F0 m 23 ls []) := by
          intro y23_2 H locs ls hf hw hl
          refine lv_iinc (i := 3) (v := (y3 + 1)) (lv' := [(3, .int ((y3 + 1))), (0, va_rf ((some q))), (1, .int (y1)), (2, .int (y23_2))]) hx hb zd_X7_linesIn_23 hl (k := 3) rfl (congrArg (_ + ·) (by decide)) (by decide) rfl (fun ls hl => ?_)
          refine lv_goto (tgt := 4) hx hb zd_X7_linesIn_26 (by decide) ?_
          exact ih y23_2 (y3 + 1) _ _ _ _ hf hw (lv_sub hl [1, 2, 3, 0] rfl) kk
        refine lv_if_le (tgt := 23) hx hb zd_X7_linesIn_14 (by decide) (fun c3 => ?_) (fun c3 => ?_)
        · replace hf := zo_t c3 hf
          exact k23h y2 _ _ _ hf hw (lv_sub hl [0, 1, 2, 3] rfl)
        · replace hf := zo_f c3 hf
          refine lv_iload_n hx hb zd_X7_linesIn_17 rfl (lv_at hl 2 rfl) ?_
          refine lv_iconst (v := 1) hx hb zd_X7_linesIn_18 (by decide) ?_
          refine lv_iload_n hx hb zd_X7_linesIn_19 rfl (lv_at hl 3 rfl) ?_
          refine lv_ishl hx hb zd_X7_linesIn_20 ?_
          refine lv_ior hx hb zd_X7_linesIn_21 ?_
          refine lv_istore_n (i := 2) (lv' := [(2, .int ((y2 ||| (1 <<< (y3 &&& 31))))), (0, va_rf ((some q))), (1, .int (y1)), (3, .int (y3))]) hx hb zd_X7_linesIn_22 rfl hl (by decide) rfl (fun ls hl => ?_)
          exact k23h (y2 ||| (1 <<< (y3 &&& 31))) _ _ _ hf hw (lv_sub hl [1, 2, 0, 3] rfl)
  unfold zf_X7_linesIn at hf
  obtain ⟨-, hf⟩ := zo_n hf
  refine lv_iconst (v := 0) hx hb zd_X7_linesIn_0 (by decide) ?_
  refine lv_istore_n (i := 2) (lv' := [(2, .int (0)), (0, va_rf ((some q))), (1, .int (x1))]) hx hb zd_X7_linesIn_1 rfl hl (by decide) rfl (fun ls hl => ?_)
  refine lv_iconst (v := 0) hx hb zd_X7_linesIn_2 (by decide) ?_
  refine lv_istore_n (i := 3) (lv' := [(3, .int (0)), (2, .int (0)), (0, va_rf ((some q))), (1, .int (x1))]) hx hb zd_X7_linesIn_3 rfl hl (by decide) rfl (fun ls hl => ?_)
  replace hf := zo_b hf; obtain ⟨w4, w4e, hf⟩ := hf
  refine L4 h x1 2000 0 0 _ _ _ _ w4e hw (lv_sub hl [2, 3, 1, 0] rfl) (fun H locs ls hw hl => ?_)
  refine lv_iload_n hx hb zd_X7_linesIn_29 rfl (lv_at hl 0 rfl) ?_
  have hres := Option.some.inj hf; subst hres
  exact zw_iret (v := w4) (ty := .int) hx hb hr hlk rfl hw zd_X7_linesIn_30 (Nat.le_refl 0) (Nat.le_refl 0)
def zf_X8_init (h : zc_H) (q : Nat) (x1 : Option Nat) : Option (zc_H) :=
  if ¬ zf_is h q 8 = true then none else
  (some (zf_new h (.inr (11, [.int 0, .null, .int 0])))).bind fun h1 =>
  (zf_Jx4a65c_init_da8c8 h1 h.2.1).bind fun r2 =>
  (zf_p r2 q 8 1 (va_rf ((some h.2.1)))).bind fun h3 =>
  (zf_p h3 q 8 2 (.int ((-1)))).bind fun h4 =>
  (zf_p h4 q 8 3 (.int (3))).bind fun h5 =>
  (some (zf_new h5 (.inl (1, 26, .inr (.inl (fun _ => 0)))))).bind fun h6 =>
  (zf_p h6 q 8 4 (va_rf ((some h5.2.1)))).bind fun h7 =>
  (zf_p h7 q 8 6 (.int ((-1)))).bind fun h8 =>
  (zf_p h8 q 8 7 (.int ((-1)))).bind fun h9 =>
  (zf_p h9 q 8 8 (.int ((-1)))).bind fun h10 =>
  (zf_p h10 q 8 0 (va_rf (x1))).bind fun h11 =>
  some h11
abbrev zr_X8_init : Room := { frames := 4, cells := 2, slots := 29, locals := 100 }
theorem zi_X8_init {h : zc_H} {q : Nat} {x1 : Option Nat} {res : zc_H} (hf : zf_X8_init h q x1 = some res) : zf_is h q 8 = true := Decidable.not_not.mp (zo_n hf).1
set_option maxHeartbeats 4000000 in
set_option maxRecDepth 20000 in
theorem zt_X8_init (l : Launch) (g : zc_G) (h : zc_H) (q : Nat) (x1 : Option Nat) (res : zc_H) (hf : zf_X8_init h q x1 = some res) : zc_M l g yX8_init cX8_init 2 none zr_X8_init h [va_rf ((some q)), va_rf (x1)] res none := by
  refine zc_M.of (by decide) (by simp [lg_sl, zv_cat, zv_ci, zv_cj]) ?_
  intro p e s m below meth c ls S hK hw hr hlk hnm hl
  replace S : CallFix p m c cX8_init 2 s [va_rf ((some q)), va_rf (x1)].toArray (zc_ws yX8_init cX8_init 2 none) RX8 := S
  have hx := S.1
  have hb := S.2.1
  replace hl : lv_has ls 2 [(0, va_rf ((some q))), (1, va_rf (x1))] := by simpa [lv_args, zv_cat, zv_ci, zv_cj] using hl
  generalize s.heap = H at hw ⊢
  obtain ⟨locs, hlocs⟩ : ∃ L : List Loc, L = [] := ⟨_, rfl⟩
  rw [← hlocs] at hw ⊢
  unfold zf_X8_init at hf
  obtain ⟨-, hf⟩ := zo_n hf
  refine zl_aload_n hx hb zd_X8_init_0 rfl (lv_at hl 0 rfl) ?_
  refine W.objInit hx hb S.2.2.2.1 (S.2.2.2.2 _ (List.mem_cons_of_mem _ zm_207)) (S.2.2.2.2 _ (List.mem_cons_of_mem _ zm_95)) (S.2.2.2.2 _ (List.mem_cons_of_mem _ zm_96)) rfl (by rw [S.2.2.1]; exact hl.1) rfl zd_X8_init_1 (Nat.le_of_ble_eq_true rfl) (by simp [F0, JFrame.monitorRoom, zv_cat, zv_ci, zv_cj, zr_X8_init]) ?_
  refine W.eq (g2 := F0 m 4 ls []) rfl ?_
  refine zl_aload_n hx hb zd_X8_init_4 rfl (lv_at hl 0 rfl) ?_
  replace hf := zo_b hf; obtain ⟨h1, eh1, hf⟩ := hf
  refine zw_new (ci := 11) (ty := tyJx4a65c) (fs := [.int 0, .null, .int 0]) S hK hw zk_11 (fun k hk => tyJx4a65c_ok k hk) (by decide) zm_208 zm_106 zm_72 (by show _ ≤ (2 : Nat); omega) (by show _ ≤ (29 : Nat); omega) zd_X8_init_5 (fun H hw => ?_)
  replace hw : zc_W g h1 H locs := (Option.some.inj eh1) ▸ hw
  refine lv_dup hx hb zd_X8_init_8 rfl ?_
  replace hf := zo_b hf; obtain ⟨r2, er2, hf⟩ := hf
  refine zw_callI (n := 0) (As := []) (rest := [va_rf ((some h.2.1)), va_rf ((some q))]) S hK hw (zt_Jx4a65c_init_da8c8 l g h1 h.2.1 _ er2) rfl zm_209 zm_108 zq_Jx4a65c_init_da8c8 zm_72 (by decide +kernel) ⟨Nat.le_of_ble_eq_true rfl, Nat.le_of_ble_eq_true rfl⟩ rfl hl.1 rfl (by simp [zv_cat, zv_ci, zv_cj]) zd_X8_init_9 ⟨(by show (0 + 1) + (0 : Nat) ≤ (2 : Nat); omega), (by show (0 + 3) + (0 : Nat) ≤ (29 : Nat); omega)⟩ (fun H locs hw => ?_)
  replace hw : zc_W g r2 H locs := hw
  refine W.widen (k := ((0 + 1) + 0)) (n := ((0 + 3) + 0)) (Nat.le_refl _) (Nat.le_refl _) ?_
  replace hf := zo_b hf; obtain ⟨h3, eh3, hf⟩ := hf
  refine zw_putF S hK hw zk_8 (k := 1) (by decide) rfl zm_211 hnm eh3 (ty := (.object "java/util/ArrayList")) (by decide +kernel) (zv_rnO _ _) (zv_rfO _ _) zd_X8_init_12 (fun H locs hw => ?_)
  refine zl_aload_n hx hb zd_X8_init_15 rfl (lv_at hl 0 rfl) ?_
  refine lv_iconst (v := (-1)) hx hb zd_X8_init_16 (by decide) ?_
  replace hf := zo_b hf; obtain ⟨h4, eh4, hf⟩ := hf
  refine zw_put S hK hw zk_8 (k := 2) (by decide) rfl zm_212 (Or.inl rfl) eh4 (ty := .int) (by decide +kernel) rfl rfl zd_X8_init_17 (fun H locs hw => ?_)
  refine zl_aload_n hx hb zd_X8_init_20 rfl (lv_at hl 0 rfl) ?_
  refine lv_iconst (v := 3) hx hb zd_X8_init_21 (by decide) ?_
  replace hf := zo_b hf; obtain ⟨h5, eh5, hf⟩ := hf
  refine zw_put S hK hw zk_8 (k := 3) (by decide) rfl zm_215 (Or.inl rfl) eh5 (ty := .int) (by decide +kernel) rfl rfl zd_X8_init_22 (fun H locs hw => ?_)
  refine zl_aload_n hx hb zd_X8_init_25 rfl (lv_at hl 0 rfl) ?_
  refine lv_bipush (v := 26) hx hb zd_X8_init_26 (by decide) ?_
  replace hf := zo_b hf; obtain ⟨h6, eh6, hf⟩ := hf
  refine zw_newa (atype := .long) (t := 1) (a0 := (26, .inr (.inl (fun _ => 0)))) (ty := .long) (N := 26) (K := 26) S hK hw zm_176 rfl rfl (Nat.le_of_ble_eq_true rfl) (fun h => h) (fun _ => rfl) (by decide) (by decide) (Nat.le_refl _) (by decide) (by show _ ≤ (2 : Nat); omega) (by show _ ≤ (29 : Nat); omega) zd_X8_init_28 (fun H hw => ?_)
  replace hw : zc_W g h6 H locs := (Option.some.inj eh6) ▸ hw
  replace hf := zo_b hf; obtain ⟨h7, eh7, hf⟩ := hf
  refine zw_putF S hK hw zk_8 (k := 4) (by decide) rfl zm_217 hnm eh7 (ty := (.array .long)) (by decide +kernel) (zv_rnA _ _) (zv_rfA _ _) zd_X8_init_30 (fun H locs hw => ?_)
  refine zl_aload_n hx hb zd_X8_init_33 rfl (lv_at hl 0 rfl) ?_
  refine lv_iconst (v := (-1)) hx hb zd_X8_init_34 (by decide) ?_
  replace hf := zo_b hf; obtain ⟨h8, eh8, hf⟩ := hf
  refine zw_put S hK hw zk_8 (k := 6) (by decide) rfl zm_219 (Or.inl rfl) eh8 (ty := .int) (by decide +kernel) rfl rfl zd_X8_init_35 (fun H locs hw => ?_)
  refine zl_aload_n hx hb zd_X8_init_38 rfl (lv_at hl 0 rfl) ?_
  refine lv_iconst (v := (-1)) hx hb zd_X8_init_39 (by decide) ?_
  replace hf := zo_b hf; obtain ⟨h9, eh9, hf⟩ := hf
  refine zw_put S hK hw zk_8 (k := 7) (by decide) rfl zm_221 (Or.inl rfl) eh9 (ty := .int) (by decide +kernel) rfl rfl zd_X8_init_40 (fun H locs hw => ?_)
  refine zl_aload_n hx hb zd_X8_init_43 rfl (lv_at hl 0 rfl) ?_
  refine lv_iconst (v := (-1)) hx hb zd_X8_init_44 (by decide) ?_
  replace hf := zo_b hf; obtain ⟨h10, eh10, hf⟩ := hf
  refine zw_put S hK hw zk_8 (k := 8) (by decide) rfl zm_222 (Or.inl rfl) eh10 (ty := .int) (by decide +kernel) rfl rfl zd_X8_init_45 (fun H locs hw => ?_)
  refine zl_aload_n hx hb zd_X8_init_48 rfl (lv_at hl 0 rfl) ?_
  refine zl_aload_n hx hb zd_X8_init_49 rfl (lv_at hl 1 rfl) ?_
  replace hf := zo_b hf; obtain ⟨h11, eh11, hf⟩ := hf
  refine zw_putF S hK hw zk_8 (k := 0) (by decide) rfl zm_210 hnm eh11 (ty := (.object "LineRemarks$State")) (by decide +kernel) (zv_rnO _ _) (zv_rfO _ _) zd_X8_init_50 (fun H locs hw => ?_)
  have hres := Option.some.inj hf; subst hres
  exact zw_vret hx hb hr hlk hw zd_X8_init_53 (by show _ ≤ (2 : Nat); omega) (by show _ ≤ (29 : Nat); omega)
def zf_X8_wayLength (h : zc_H) (q : Nat) : Option (Int32) :=
  if ¬ zf_is h q 8 = true then none else
  (zf_gr h q 8 1).bind fun v1 =>
  v1.bind fun a3 =>
  (zf_Jx4a65c_size_8abf5 h a3).bind fun r4 =>
  some r4
abbrev zr_X8_wayLength : Room := { frames := 1, cells := 0, slots := 0, locals := 20 }
theorem zi_X8_wayLength {h : zc_H} {q : Nat} {res : Int32} (hf : zf_X8_wayLength h q = some res) : zf_is h q 8 = true := Decidable.not_not.mp (zo_n hf).1
set_option maxHeartbeats 4000000 in
set_option maxRecDepth 20000 in
theorem zt_X8_wayLength (l : Launch) (g : zc_G) (h : zc_H) (q : Nat) (res : Int32) (hf : zf_X8_wayLength h q = some res) : zc_M l g yX8_wayLength cX8_wayLength 1 (some .int) zr_X8_wayLength h [va_rf ((some q))] h (some (.int (res))) := by
  refine zc_M.of (by decide) (by simp [lg_sl, zv_cat, zv_ci, zv_cj]) ?_
  intro p e s m below meth c ls S hK hw hr hlk hnm hl
  replace S : CallFix p m c cX8_wayLength 1 s [va_rf ((some q))].toArray (zc_ws yX8_wayLength cX8_wayLength 1 (some .int)) RX8 := S
  have hx := S.1
  have hb := S.2.1
  replace hl : lv_has ls 1 [(0, va_rf ((some q)))] := by simpa [lv_args, zv_cat, zv_ci, zv_cj] using hl
  generalize s.heap = H at hw ⊢
  obtain ⟨locs, hlocs⟩ : ∃ L : List Loc, L = [] := ⟨_, rfl⟩
  rw [← hlocs] at hw ⊢
  unfold zf_X8_wayLength at hf
  obtain ⟨-, hf⟩ := zo_n hf
  refine zl_aload_n hx hb zd_X8_wayLength_0 rfl (lv_at hl 0 rfl) ?_
  replace hf := zo_b hf; obtain ⟨v1, ev1, hf⟩ := hf
  obtain ⟨u2, u2e, u2v⟩ := zo_b ev1
  obtain rfl := zv_r_e u2v
  refine zw_get S hK hw zk_8 (k := 1) (by decide) rfl zm_211 (Or.inl rfl) u2e zd_X8_wayLength_1 ?_
  replace hf := zo_b hf; obtain ⟨a3, na3, hf⟩ := hf
  refine W.eq (g2 := F0 m 4 ls [va_rf ((some a3))]) (by rw [na3] <;> rfl) ?_
  replace hf := zo_b hf; obtain ⟨r4, er4, hf⟩ := hf
  refine zw_callV (n := 0) (ci := 11) (q := zc_cl[11]) (As := []) (rest := []) S hK hw (zt_Jx4a65c_size_8abf5 l g h a3 _ er4) zm_727 zm_425 zm_426 zq_Jx4a65c_size_8abf5 zm_72 (by decide +kernel) ⟨Nat.le_of_ble_eq_true rfl, Nat.le_of_ble_eq_true rfl⟩ rfl rfl rfl (zi_Jx4a65c_size_8abf5 er4) hl.1 rfl (by simp [zv_cat, zv_ci, zv_cj]) zd_X8_wayLength_4 ⟨(Nat.le_refl 0), (Nat.le_refl 0)⟩ (fun H locs hw => ?_)
  replace hw : zc_W g h H locs := hw
  have hres := Option.some.inj hf; subst hres
  exact zw_iret (v := r4) (ty := .int) hx hb hr hlk rfl hw zd_X8_wayLength_7 (Nat.le_refl 0) (Nat.le_refl 0)
def zf_X8_carried_L12 (h : zc_H) (q : Nat) : Nat → Int32 → Int32 → Option (Int32)
  | 0, _, _ => none
  | n + 1, y2, y3 =>
    if y3 < 0 then
      some y2
    else
    (zf_gr h q 8 1).bind fun v6 =>
    v6.bind fun a8 =>
    (zf_Jx4a65c_get_915e3 h a8 y3).bind fun r9 =>
    if ¬ zf_cc h r9 4 = true then none else
    r9.bind fun a11 =>
    (zf_X4_placeOf h a11 y2).bind fun r12 =>
    zf_X8_carried_L12 h q n r12 (y3 + (-1))
def zf_X8_carried (h : zc_H) (q : Nat) (x1 : Int32) : Option (Int32) :=
  if ¬ zf_is h q 8 = true then none else
  (zf_gr h q 8 1).bind fun v1 =>
  v1.bind fun a3 =>
  (zf_Jx4a65c_size_8abf5 h a3).bind fun r4 =>
  (zf_X8_carried_L12 h q 2000 x1 (r4 - 2)).bind fun w13 =>
  some w13
abbrev zr_X8_carried : Room := { frames := 3, cells := 0, slots := 0, locals := 64 }
theorem zi_X8_carried {h : zc_H} {q : Nat} {x1 : Int32} {res : Int32} (hf : zf_X8_carried h q x1 = some res) : zf_is h q 8 = true := Decidable.not_not.mp (zo_n hf).1
set_option maxHeartbeats 4000000 in
set_option maxRecDepth 20000 in
theorem zt_X8_carried (l : Launch) (g : zc_G) (h : zc_H) (q : Nat) (x1 : Int32) (res : Int32) (hf : zf_X8_carried h q x1 = some res) : zc_M l g yX8_carried cX8_carried 4 (some .int) zr_X8_carried h [va_rf ((some q)), .int (x1)] h (some (.int (res))) := by
  refine zc_M.of (by decide) (by simp [lg_sl, zv_cat, zv_ci, zv_cj]) ?_
  intro p e s m below meth c ls S hK hw hr hlk hnm hl
  replace S : CallFix p m c cX8_carried 4 s [va_rf ((some q)), .int (x1)].toArray (zc_ws yX8_carried cX8_carried 4 (some .int)) RX8 := S
  have hx := S.1
  have hb := S.2.1
  replace hl : lv_has ls 4 [(0, va_rf ((some q))), (1, .int (x1))] := by simpa [lv_args, zv_cat, zv_ci, zv_cj] using hl
  generalize s.heap = H at hw ⊢
  obtain ⟨locs, hlocs⟩ : ∃ L : List Loc, L = [] := ⟨_, rfl⟩
  rw [← hlocs] at hw ⊢
  have L12 : ∀ (h : zc_H) (n : Nat) (y2 : Int32) (y3 : Int32) (w : Int32) (H : Heap) (locs : List Loc) (ls : Array Slot), zf_X8_carried_L12 h q n y2 y3 = some w → zc_W g h H locs → lv_has ls 4 [(0, va_rf ((some q))), (2, .int (y2)), (3, .int (y3))] → (∀ (H : Heap) (locs : List Loc) (ls : Array Slot), zc_W g h H locs → lv_has ls 4 [(2, .int (w))] → W p l e zr_X8_carried s m [va_rf ((some q)), .int (x1)].toArray below meth c H locs 0 0 (zc_Q g below zr_X8_carried (some (.int (res))) h [va_rf ((some q)), .int (x1)] s) (F0 m 38 ls [])) → W p l e zr_X8_carried s m [va_rf ((some q)), .int (x1)].toArray below meth c H locs 0 0 (zc_Q g below zr_X8_carried (some (.int (res))) h [va_rf ((some q)), .int (x1)] s) (F0 m 12 ls []) := by
    intro h n
    induction n with
    | zero =>
      intro y2 y3 w H locs ls hf
      cases hf
    | succ n ih =>
      intro y2 y3 w H locs ls hf hw hl  kk
      unfold zf_X8_carried_L12 at hf
      refine lv_iload_n hx hb zd_X8_carried_12 rfl (lv_at hl 2 rfl) ?_
      refine lv_if_lt (tgt := 38) hx hb zd_X8_carried_13 (by decide) (fun c5 => ?_) (fun c5 => ?_)
      · replace hf := zo_t c5 hf
        have hres := Option.some.inj hf; subst hres
        exact kk _ _ _ hw (lv_sub hl [1] rfl)
      · replace hf := zo_f c5 hf
        refine zl_aload_n hx hb zd_X8_carried_16 rfl (lv_at hl 0 rfl) ?_
        replace hf := zo_b hf; obtain ⟨v6, ev6, hf⟩ := hf
        obtain ⟨u7, u7e, u7v⟩ := zo_b ev6
        obtain rfl := zv_r_e u7v
        refine zw_get S hK hw zk_8 (k := 1) (by decide) rfl zm_211 (Or.inl rfl) u7e zd_X8_carried_17 ?_
        refine lv_iload_n hx hb zd_X8_carried_20 rfl (lv_at hl 2 rfl) ?_
        replace hf := zo_b hf; obtain ⟨a8, na8, hf⟩ := hf
        refine W.eq (g2 := F0 m 21 ls [.int (y3), va_rf ((some a8))]) (by rw [na8] <;> rfl) ?_
        replace hf := zo_b hf; obtain ⟨r9, er9, hf⟩ := hf
        refine zw_callV (n := 1) (ci := 11) (q := zc_cl[11]) (As := [.int (y3)]) (rest := []) S hK hw (zt_Jx4a65c_get_915e3 l g h a8 y3 _ er9) zm_728 zm_429 zm_430 zq_Jx4a65c_get_915e3 zm_72 (by decide +kernel) ⟨Nat.le_of_ble_eq_true rfl, Nat.le_of_ble_eq_true rfl⟩ rfl rfl rfl (zi_Jx4a65c_get_915e3 er9) hl.1 rfl (by simp [zv_cat, zv_ci, zv_cj]) zd_X8_carried_21 ⟨(Nat.le_refl 0), (Nat.le_refl 0)⟩ (fun H locs hw => ?_)
        replace hw : zc_W g h H locs := hw
        replace hf := zo_n hf; obtain ⟨z10, hf⟩ := hf
        refine zw_cast (q := zc_cl[4]) S hK hw zm_729 rfl rfl (Decidable.not_not.mp z10) zd_X8_carried_24 ?_
        refine lv_iload_n hx hb zd_X8_carried_27 rfl (lv_at hl 1 rfl) ?_
        replace hf := zo_b hf; obtain ⟨a11, na11, hf⟩ := hf
        refine W.eq (g2 := F0 m 28 ls [.int (y2), va_rf ((some a11))]) (by rw [na11] <;> rfl) ?_
        replace hf := zo_b hf; obtain ⟨r12, er12, hf⟩ := hf
        refine zw_callV (n := 1) (ci := 4) (q := zc_cl[4]) (As := [.int (y2)]) (rest := []) S hK hw (zt_X4_placeOf l g h a11 y2 _ er12) zm_730 zm_731 zm_732 zq_X4_placeOf zm_84 (by decide +kernel) ⟨Nat.le_of_ble_eq_true rfl, Nat.le_of_ble_eq_true rfl⟩ rfl rfl rfl (zi_X4_placeOf er12) hl.1 rfl (by simp [zv_cat, zv_ci, zv_cj]) zd_X8_carried_28 ⟨(Nat.le_refl 0), (Nat.le_refl 0)⟩ (fun H locs hw => ?_)
        replace hw : zc_W g h H locs := hw
        refine lv_istore_n (i := 2) (lv' := [(2, .int (r12)), (0, va_rf ((some q))), (3, .int (y3))]) hx hb zd_X8_carried_31 rfl hl (by decide) rfl (fun ls hl => ?_)
        refine lv_iinc (i := 3) (v := (y3 + (-1))) (lv' := [(3, .int ((y3 + (-1)))), (2, .int (r12)), (0, va_rf ((some q)))]) hx hb zd_X8_carried_32 hl (k := 2) rfl (congrArg (_ + ·) (by decide)) (by decide) rfl (fun ls hl => ?_)
        refine lv_goto (tgt := 12) hx hb zd_X8_carried_35 (by decide) ?_
        exact ih r12 (y3 + (-1)) _ _ _ _ hf hw (lv_sub hl [2, 1, 0] rfl) kk
  unfold zf_X8_carried at hf
  obtain ⟨-, hf⟩ := zo_n hf
  refine lv_iload_n hx hb zd_X8_carried_0 rfl (lv_at hl 1 rfl) ?_
  refine lv_istore_n (i := 2) (lv' := [(2, .int (x1)), (0, va_rf ((some q))), (1, .int (x1))]) hx hb zd_X8_carried_1 rfl hl (by decide) rfl (fun ls hl => ?_)
  refine zl_aload_n hx hb zd_X8_carried_2 rfl (lv_at hl 1 rfl) ?_
  replace hf := zo_b hf; obtain ⟨v1, ev1, hf⟩ := hf
  obtain ⟨u2, u2e, u2v⟩ := zo_b ev1
  obtain rfl := zv_r_e u2v
  refine zw_get S hK hw zk_8 (k := 1) (by decide) rfl zm_211 (Or.inl rfl) u2e zd_X8_carried_3 ?_
  replace hf := zo_b hf; obtain ⟨a3, na3, hf⟩ := hf
  refine W.eq (g2 := F0 m 6 ls [va_rf ((some a3))]) (by rw [na3] <;> rfl) ?_
  replace hf := zo_b hf; obtain ⟨r4, er4, hf⟩ := hf
  refine zw_callV (n := 0) (ci := 11) (q := zc_cl[11]) (As := []) (rest := []) S hK hw (zt_Jx4a65c_size_8abf5 l g h a3 _ er4) zm_727 zm_425 zm_426 zq_Jx4a65c_size_8abf5 zm_72 (by decide +kernel) ⟨Nat.le_of_ble_eq_true rfl, Nat.le_of_ble_eq_true rfl⟩ rfl rfl rfl (zi_Jx4a65c_size_8abf5 er4) hl.1 rfl (by simp [zv_cat, zv_ci, zv_cj]) zd_X8_carried_6 ⟨(Nat.le_refl 0), (Nat.le_refl 0)⟩ (fun H locs hw => ?_)
  replace hw : zc_W g h H locs := hw
  refine lv_iconst (v := 2) hx hb zd_X8_carried_9 (by decide) ?_
  refine lv_isub hx hb zd_X8_carried_10 ?_
  refine lv_istore_n (i := 3) (lv' := [(3, .int ((r4 - 2))), (2, .int (x1)), (0, va_rf ((some q))), (1, .int (x1))]) hx hb zd_X8_carried_11 rfl hl (by decide) rfl (fun ls hl => ?_)
  replace hf := zo_b hf; obtain ⟨w13, w13e, hf⟩ := hf
  refine L12 h  2000 x1 (r4 - 2) _ _ _ _ w13e hw (lv_sub hl [2, 1, 0] rfl) (fun H locs ls hw hl => ?_)
  refine lv_iload_n hx hb zd_X8_carried_38 rfl (lv_at hl 0 rfl) ?_
  have hres := Option.some.inj hf; subst hres
  exact zw_iret (v := w13) (ty := .int) hx hb hr hlk rfl hw zd_X8_carried_39 (Nat.le_refl 0) (Nat.le_refl 0)
def zf_X8_firstWrong_L13 (q : Nat) (y1 : Option Nat) (y2 : Option Nat) : Nat → zc_H → Option Nat → Int32 → Option (zc_H × ((Unit) ⊕ (Int32)))
  | 0, _, _, _ => none
  | n + 1, h, y3, y4 =>
    (zf_gr h q 8 1).bind fun v5 =>
    v5.bind fun a7 =>
    (zf_Jx4a65c_size_8abf5 h a7).bind fun r8 =>
    if r8 ≤ y4 then
      some (h, (.inl ()))
    else
    let k69 := fun (h69j : zc_H) (y69_3 : Option Nat) =>
      y2.bind fun a11 =>
      (zf_X5_numberAt h69j a11 y4).bind fun r12 =>
      (zf_gi h69j q 8 2).bind fun v13 =>
      (zf_X9_firstOf h69j v13).bind fun r15 =>
      if r12 = r15 then
        zf_X8_firstWrong_L13 q y1 y2 n h69j y69_3 (y4 + 1)
      else
      some (h69j, (.inr y4))
    if y4 ≤ 0 then
      k69 h y3
    else
    (zf_gr h q 8 1).bind fun v17 =>
    (zf_gr h q 8 1).bind fun v19 =>
    v19.bind fun a21 =>
    (zf_Jx4a65c_size_8abf5 h a21).bind fun r22 =>
    v17.bind fun a23 =>
    (zf_Jx4a65c_get_915e3 h a23 ((r22 - 1) - y4)).bind fun r24 =>
    if ¬ zf_cc h r24 4 = true then none else
    y1.bind fun a26 =>
    (zf_gi h a26 3 1).bind fun v27 =>
    (zf_X8_step h q y1 v27 y3 r24).bind fun r29 =>
    k69 r29 r24
def zf_X8_firstWrong (h : zc_H) (q : Nat) (x1 : Option Nat) (x2 : Option Nat) : Option (zc_H × Int32) :=
  if ¬ zf_is h q 8 = true then none else
  (zf_X8_begin h q x1).bind fun r1 =>
  x1.bind fun a2 =>
  (zf_gr r1 a2 3 3).bind fun v3 =>
  (zf_X8_firstWrong_L13 q x1 x2 2000 r1 v3 0).bind fun w30 =>
  Sum.elim (fun t31 =>
    some (w30.1, (-1))
    ) (fun t32 =>
    some (w30.1, t32)
    ) w30.2
abbrev zr_X8_firstWrong : Room := { frames := 5, cells := 0, slots := 0, locals := 139 }
theorem zi_X8_firstWrong {h : zc_H} {q : Nat} {x1 : Option Nat} {x2 : Option Nat} {res : zc_H × Int32} (hf : zf_X8_firstWrong h q x1 x2 = some res) : zf_is h q 8 = true := Decidable.not_not.mp (zo_n hf).1
set_option maxHeartbeats 4000000 in
set_option maxRecDepth 20000 in
theorem zt_X8_firstWrong (l : Launch) (g : zc_G) (h : zc_H) (q : Nat) (x1 : Option Nat) (x2 : Option Nat) (res : zc_H × Int32) (hf : zf_X8_firstWrong h q x1 x2 = some res) : zc_M l g yX8_firstWrong cX8_firstWrong 6 (some .int) zr_X8_firstWrong h [va_rf ((some q)), va_rf (x1), va_rf (x2)] res.1 (some (.int (res.2))) := by
  refine zc_M.of (by decide) (by simp [lg_sl, zv_cat, zv_ci, zv_cj]) ?_
  intro p e s m below meth c ls S hK hw hr hlk hnm hl
  replace S : CallFix p m c cX8_firstWrong 6 s [va_rf ((some q)), va_rf (x1), va_rf (x2)].toArray (zc_ws yX8_firstWrong cX8_firstWrong 6 (some .int)) RX8 := S
  have hx := S.1
  have hb := S.2.1
  replace hl : lv_has ls 6 [(0, va_rf ((some q))), (1, va_rf (x1)), (2, va_rf (x2))] := by simpa [lv_args, zv_cat, zv_ci, zv_cj] using hl
  generalize s.heap = H at hw ⊢
  obtain ⟨locs, hlocs⟩ : ∃ L : List Loc, L = [] := ⟨_, rfl⟩
  rw [← hlocs] at hw ⊢
  have L13 : ∀ (y1 : Option Nat) (y2 : Option Nat) (n : Nat) (h : zc_H) (y3 : Option Nat) (y4 : Int32) (w : zc_H × ((Unit) ⊕ (Int32))) (H : Heap) (locs : List Loc) (ls : Array Slot), zf_X8_firstWrong_L13 q y1 y2 n h y3 y4 = some w → zc_W g h H locs → lv_has ls 6 [(0, va_rf ((some q))), (1, va_rf (y1)), (2, va_rf (y2)), (3, va_rf (y3)), (4, .int (y4))] → (∀ (t : Unit) (H : Heap) (locs : List Loc) (ls : Array Slot), w.2 = (.inl t) → zc_W g w.1 H locs → lv_has ls 6 [] → W p l e zr_X8_firstWrong s m [va_rf ((some q)), va_rf (x1), va_rf (x2)].toArray below meth c H locs 0 0 (zc_Q g below zr_X8_firstWrong (some (.int (res.2))) res.1 [va_rf ((some q)), va_rf (x1), va_rf (x2)] s) (F0 m 94 ls [])) → (∀ (t : Int32) (H : Heap) (locs : List Loc) (ls : Array Slot), w.2 = (.inr t) → zc_W g w.1 H locs → lv_has ls 6 [(4, .int (t))] → W p l e zr_X8_firstWrong s m [va_rf ((some q)), va_rf (x1), va_rf (x2)].toArray below meth c H locs 0 0 (zc_Q g below zr_X8_firstWrong (some (.int (res.2))) res.1 [va_rf ((some q)), va_rf (x1), va_rf (x2)] s) (F0 m 85 ls [])) → W p l e zr_X8_firstWrong s m [va_rf ((some q)), va_rf (x1), va_rf (x2)].toArray below meth c H locs 0 0 (zc_Q g below zr_X8_firstWrong (some (.int (res.2))) res.1 [va_rf ((some q)), va_rf (x1), va_rf (x2)] s) (F0 m 13 ls []) := by
    intro y1 y2 n
    induction n with
    | zero =>
      intro h y3 y4 w H locs ls hf
      cases hf
    | succ n ih =>
      intro h y3 y4 w H locs ls hf hw hl  kk1 kk2
      unfold zf_X8_firstWrong_L13 at hf
      refine lv_iload hx hb zd_X8_firstWrong_13 (lv_at hl 4 rfl) ?_
      refine zl_aload_n hx hb zd_X8_firstWrong_15 rfl (lv_at hl 0 rfl) ?_
      replace hf := zo_b hf; obtain ⟨v5, ev5, hf⟩ := hf
      obtain ⟨u6, u6e, u6v⟩ := zo_b ev5
      obtain rfl := zv_r_e u6v
      refine zw_get S hK hw zk_8 (k := 1) (by decide) rfl zm_211 (Or.inl rfl) u6e zd_X8_firstWrong_16 ?_
      replace hf := zo_b hf; obtain ⟨a7, na7, hf⟩ := hf
      refine W.eq (g2 := F0 m 19 ls [va_rf ((some a7)), .int (y4)]) (by rw [na7] <;> rfl) ?_
      replace hf := zo_b hf; obtain ⟨r8, er8, hf⟩ := hf
      refine zw_callV (n := 0) (ci := 11) (q := zc_cl[11]) (As := []) (rest := [.int (y4)]) S hK hw (zt_Jx4a65c_size_8abf5 l g h a7 _ er8) zm_727 zm_425 zm_426 zq_Jx4a65c_size_8abf5 zm_72 (by decide +kernel) ⟨Nat.le_of_ble_eq_true rfl, Nat.le_of_ble_eq_true rfl⟩ rfl rfl rfl (zi_Jx4a65c_size_8abf5 er8) hl.1 rfl (by simp [zv_cat, zv_ci, zv_cj]) zd_X8_firstWrong_19 ⟨(Nat.le_refl 0), (Nat.le_refl 0)⟩ (fun H locs hw => ?_)
      replace hw : zc_W g h H locs := hw
      refine lv_icmp_ge (tgt := 94) hx hb zd_X8_firstWrong_22 (by decide) (fun c9 => ?_) (fun c9 => ?_)
      · replace hf := zo_t c9 hf
        have hres := Option.some.inj hf; subst hres
        exact kk1 _ _ _ _ rfl hw (lv_sub hl [] rfl)
      · replace hf := zo_f c9 hf
        refine lv_iload hx hb zd_X8_firstWrong_25 (lv_at hl 4 rfl) ?_
        have k69h : ∀ (h69j : zc_H) (y69_3 : Option Nat) (H : Heap) (locs : List Loc) (ls : Array Slot), (
            y2.bind fun a11 =>
            (zf_X5_numberAt h69j a11 y4).bind fun r12 =>
            (zf_gi h69j q 8 2).bind fun v13 =>
            (zf_X9_firstOf h69j v13).bind fun r15 =>
            if r12 = r15 then
              zf_X8_firstWrong_L13 q y1 y2 n h69j y69_3 (y4 + 1)
            else
            some (h69j, (.inr y4))
            ) = some w → zc_W g h69j H locs → lv_has ls 6 [(0, va_rf ((some q))), (1, va_rf (y1)), (2, va_rf (y2)), (3, va_rf (y69_3)), (4, .int (y4))] → W p l e zr_X8_firstWrong s m [va_rf ((some q)), va_rf (x1), va_rf (x2)].toArray below meth c H locs (0 + 0) (0 + 0) (zc_Q g below zr_X8_firstWrong (some (.int (res.2))) res.1 [va_rf ((some q)), va_rf (x1), va_rf (x2)] s) (F0 m 69 ls []) := by
          intro h69j y69_3 H locs ls hf hw hl
          refine zl_aload_n hx hb zd_X8_firstWrong_69 rfl (lv_at hl 2 rfl) ?_
          refine lv_iload hx hb zd_X8_firstWrong_70 (lv_at hl 4 rfl) ?_
          replace hf := zo_b hf; obtain ⟨a11, na11, hf⟩ := hf
          refine W.eq (g2 := F0 m 72 ls [.int (y4), va_rf ((some a11))]) (by rw [na11] <;> rfl) ?_
          replace hf := zo_b hf; obtain ⟨r12, er12, hf⟩ := hf
          refine zw_callV (n := 1) (ci := 5) (q := zc_cl[5]) (As := [.int (y4)]) (rest := []) S hK hw (zt_X5_numberAt l g h69j a11 y4 _ er12) zm_966 zm_492 zm_493 zq_X5_numberAt zm_78 (by decide +kernel) ⟨Nat.le_of_ble_eq_true rfl, Nat.le_of_ble_eq_true rfl⟩ rfl rfl rfl (zi_X5_numberAt er12) hl.1 rfl (by simp [zv_cat, zv_ci, zv_cj]) zd_X8_firstWrong_72 ⟨(Nat.le_refl 0), (Nat.le_refl 0)⟩ (fun H locs hw => ?_)
          replace hw : zc_W g h69j H locs := hw
          refine zl_aload_n hx hb zd_X8_firstWrong_75 rfl (lv_at hl 0 rfl) ?_
          replace hf := zo_b hf; obtain ⟨v13, ev13, hf⟩ := hf
          obtain ⟨u14, u14e, u14v⟩ := zo_b ev13
          obtain rfl := zv_i_e u14v
          refine zw_get S hK hw zk_8 (k := 2) (by decide) rfl zm_212 (Or.inl rfl) u14e zd_X8_firstWrong_76 ?_
          replace hf := zo_b hf; obtain ⟨r15, er15, hf⟩ := hf
          refine zw_callSN (n := 1) (As := [.int (v13)]) (rest := [.int (r12)]) S hK hw (zt_X9_firstOf l g h69j v13 _ er15) zm_842 zm_474 zq_X9_firstOf zm_68 (by decide +kernel) ⟨Nat.le_of_ble_eq_true rfl, Nat.le_of_ble_eq_true rfl⟩ rfl hl.1 rfl (by simp [zv_cat, zv_ci, zv_cj]) zd_X8_firstWrong_79 ⟨(Nat.le_refl 0), (Nat.le_refl 0)⟩ (fun H locs hw => ?_)
          replace hw : zc_W g h69j H locs := hw
          refine lv_icmp_eq (tgt := 88) hx hb zd_X8_firstWrong_82 (by decide) (fun c16 => ?_) (fun c16 => ?_)
          · replace hf := zo_t c16 hf
            refine lv_iinc (i := 4) (v := (y4 + 1)) (lv' := [(4, .int ((y4 + 1))), (0, va_rf ((some q))), (1, va_rf (y1)), (2, va_rf (y2)), (3, va_rf (y69_3))]) hx hb zd_X8_firstWrong_88 hl (k := 4) rfl (congrArg (_ + ·) (by decide)) (by decide) (by simp [List.filter, zv_cat, zv_ci, zv_cj]) (fun ls hl => ?_)
            refine lv_goto (tgt := 13) hx hb zd_X8_firstWrong_91 (by decide) ?_
            exact ih h69j y69_3 (y4 + 1) _ _ _ _ hf hw (lv_sub hl [1, 2, 3, 4, 0] rfl) kk1 kk2
          · replace hf := zo_f c16 hf
            have hres := Option.some.inj hf; subst hres
            exact kk2 _ _ _ _ rfl hw (lv_sub hl [4] rfl)
        refine lv_if_le (tgt := 69) hx hb zd_X8_firstWrong_27 (by decide) (fun c10 => ?_) (fun c10 => ?_)
        · replace hf := zo_t c10 hf
          exact k69h h y3 _ _ _ hf hw (lv_sub hl [0, 1, 2, 3, 4] rfl)
        · replace hf := zo_f c10 hf
          refine zl_aload_n hx hb zd_X8_firstWrong_30 rfl (lv_at hl 0 rfl) ?_
          replace hf := zo_b hf; obtain ⟨v17, ev17, hf⟩ := hf
          obtain ⟨u18, u18e, u18v⟩ := zo_b ev17
          obtain rfl := zv_r_e u18v
          refine zw_get S hK hw zk_8 (k := 1) (by decide) rfl zm_211 (Or.inl rfl) u18e zd_X8_firstWrong_31 ?_
          refine zl_aload_n hx hb zd_X8_firstWrong_34 rfl (lv_at hl 0 rfl) ?_
          replace hf := zo_b hf; obtain ⟨v19, ev19, hf⟩ := hf
          obtain ⟨u20, u20e, u20v⟩ := zo_b ev19
          obtain rfl := zv_r_e u20v
          refine zw_get S hK hw zk_8 (k := 1) (by decide) rfl zm_211 (Or.inl rfl) u20e zd_X8_firstWrong_35 ?_
          replace hf := zo_b hf; obtain ⟨a21, na21, hf⟩ := hf
          refine W.eq (g2 := F0 m 38 ls [va_rf ((some a21)), va_rf (v17)]) (by rw [na21] <;> rfl) ?_
          replace hf := zo_b hf; obtain ⟨r22, er22, hf⟩ := hf
          refine zw_callV (n := 0) (ci := 11) (q := zc_cl[11]) (As := []) (rest := [va_rf (v17)]) S hK hw (zt_Jx4a65c_size_8abf5 l g h a21 _ er22) zm_727 zm_425 zm_426 zq_Jx4a65c_size_8abf5 zm_72 (by decide +kernel) ⟨Nat.le_of_ble_eq_true rfl, Nat.le_of_ble_eq_true rfl⟩ rfl rfl rfl (zi_Jx4a65c_size_8abf5 er22) hl.1 rfl (by simp [zv_cat, zv_ci, zv_cj]) zd_X8_firstWrong_38 ⟨(Nat.le_refl 0), (Nat.le_refl 0)⟩ (fun H locs hw => ?_)
          replace hw : zc_W g h H locs := hw
          refine lv_iconst (v := 1) hx hb zd_X8_firstWrong_41 (by decide) ?_
          refine lv_isub hx hb zd_X8_firstWrong_42 ?_
          refine lv_iload hx hb zd_X8_firstWrong_43 (lv_at hl 4 rfl) ?_
          refine lv_isub hx hb zd_X8_firstWrong_45 ?_
          replace hf := zo_b hf; obtain ⟨a23, na23, hf⟩ := hf
          refine W.eq (g2 := F0 m 46 ls [.int (((r22 - 1) - y4)), va_rf ((some a23))]) (by rw [na23] <;> rfl) ?_
          replace hf := zo_b hf; obtain ⟨r24, er24, hf⟩ := hf
          refine zw_callV (n := 1) (ci := 11) (q := zc_cl[11]) (As := [.int (((r22 - 1) - y4))]) (rest := []) S hK hw (zt_Jx4a65c_get_915e3 l g h a23 ((r22 - 1) - y4) _ er24) zm_728 zm_429 zm_430 zq_Jx4a65c_get_915e3 zm_72 (by decide +kernel) ⟨Nat.le_of_ble_eq_true rfl, Nat.le_of_ble_eq_true rfl⟩ rfl rfl rfl (zi_Jx4a65c_get_915e3 er24) hl.1 rfl (by simp [zv_cat, zv_ci, zv_cj]) zd_X8_firstWrong_46 ⟨(Nat.le_refl 0), (Nat.le_refl 0)⟩ (fun H locs hw => ?_)
          replace hw : zc_W g h H locs := hw
          replace hf := zo_n hf; obtain ⟨z25, hf⟩ := hf
          refine zw_cast (q := zc_cl[4]) S hK hw zm_729 rfl rfl (Decidable.not_not.mp z25) zd_X8_firstWrong_49 ?_
          refine zl_astore (i := 5) (lv' := [(5, va_rf (r24)), (0, va_rf ((some q))), (1, va_rf (y1)), (2, va_rf (y2)), (3, va_rf (y3)), (4, .int (y4))]) hx hb zd_X8_firstWrong_52 hl (by decide) rfl (fun ls hl => ?_)
          refine zl_aload_n hx hb zd_X8_firstWrong_54 rfl (lv_at hl 1 rfl) ?_
          refine zl_aload_n hx hb zd_X8_firstWrong_55 rfl (lv_at hl 2 rfl) ?_
          refine zl_aload_n hx hb zd_X8_firstWrong_56 rfl (lv_at hl 2 rfl) ?_
          replace hf := zo_b hf; obtain ⟨a26, na26, hf⟩ := hf
          refine W.eq (g2 := F0 m 57 ls [va_rf ((some a26)), va_rf (y1), va_rf ((some q))]) (by rw [na26] <;> rfl) ?_
          replace hf := zo_b hf; obtain ⟨v27, ev27, hf⟩ := hf
          obtain ⟨u28, u28e, u28v⟩ := zo_b ev27
          obtain rfl := zv_i_e u28v
          refine zw_get S hK hw zk_3 (k := 1) (by decide) rfl zm_760 (Or.inl rfl) u28e zd_X8_firstWrong_57 ?_
          refine zl_aload_n hx hb zd_X8_firstWrong_60 rfl (lv_at hl 4 rfl) ?_
          refine zl_aload hx hb zd_X8_firstWrong_61 (lv_at hl 0 rfl) ?_
          replace hf := zo_b hf; obtain ⟨r29, er29, hf⟩ := hf
          refine zw_callV (n := 4) (ci := 8) (q := zc_cl[8]) (As := [va_rf (y1), .int (v27), va_rf (y3), va_rf (r24)]) (rest := []) S hK hw (zt_X8_step l g h q y1 v27 y3 r24 _ er29) zm_833 zm_835 zm_16 zq_X8_step zm_75 (by decide +kernel) ⟨Nat.le_of_ble_eq_true rfl, Nat.le_of_ble_eq_true rfl⟩ rfl rfl rfl (zi_X8_step er29) hl.1 rfl (by simp [zv_cat, zv_ci, zv_cj]) zd_X8_firstWrong_63 ⟨(Nat.le_refl 0), (Nat.le_refl 0)⟩ (fun H locs hw => ?_)
          replace hw : zc_W g r29 H locs := hw
          refine zl_aload hx hb zd_X8_firstWrong_66 (lv_at hl 0 rfl) ?_
          refine zl_astore_n (i := 3) (lv' := [(3, va_rf (r24)), (5, va_rf (r24)), (0, va_rf ((some q))), (1, va_rf (y1)), (2, va_rf (y2)), (4, .int (y4))]) hx hb zd_X8_firstWrong_68 rfl hl (by decide) (by simp [List.filter, zv_cat, zv_ci, zv_cj]) (fun ls hl => ?_)
          exact k69h r29 r24 _ _ _ hf hw (lv_sub hl [2, 3, 4, 0, 5] rfl)
  unfold zf_X8_firstWrong at hf
  obtain ⟨-, hf⟩ := zo_n hf
  refine zl_aload_n hx hb zd_X8_firstWrong_0 rfl (lv_at hl 0 rfl) ?_
  refine zl_aload_n hx hb zd_X8_firstWrong_1 rfl (lv_at hl 1 rfl) ?_
  replace hf := zo_b hf; obtain ⟨r1, er1, hf⟩ := hf
  refine zw_callV (n := 1) (ci := 8) (q := zc_cl[8]) (As := [va_rf (x1)]) (rest := []) S hK hw (zt_X8_begin l g h q x1 _ er1) zm_829 zm_831 zm_15 zq_X8_begin zm_75 (by decide +kernel) ⟨Nat.le_of_ble_eq_true rfl, Nat.le_of_ble_eq_true rfl⟩ rfl rfl rfl (zi_X8_begin er1) hl.1 rfl (by simp [zv_cat, zv_ci, zv_cj]) zd_X8_firstWrong_2 ⟨(Nat.le_refl 0), (Nat.le_refl 0)⟩ (fun H locs hw => ?_)
  replace hw : zc_W g r1 H locs := hw
  refine zl_aload_n hx hb zd_X8_firstWrong_5 rfl (lv_at hl 1 rfl) ?_
  replace hf := zo_b hf; obtain ⟨a2, na2, hf⟩ := hf
  refine W.eq (g2 := F0 m 6 ls [va_rf ((some a2))]) (by rw [na2] <;> rfl) ?_
  replace hf := zo_b hf; obtain ⟨v3, ev3, hf⟩ := hf
  obtain ⟨u4, u4e, u4v⟩ := zo_b ev3
  obtain rfl := zv_r_e u4v
  refine zw_get S hK hw zk_3 (k := 3) (by decide) rfl zm_766 (Or.inl rfl) u4e zd_X8_firstWrong_6 ?_
  refine zl_astore_n (i := 3) (lv' := [(3, va_rf (v3)), (0, va_rf ((some q))), (1, va_rf (x1)), (2, va_rf (x2))]) hx hb zd_X8_firstWrong_9 rfl hl (by decide) (by simp [List.filter, zv_cat, zv_ci, zv_cj]) (fun ls hl => ?_)
  refine lv_iconst (v := 0) hx hb zd_X8_firstWrong_10 (by decide) ?_
  refine lv_istore (i := 4) (lv' := [(4, .int (0)), (3, va_rf (v3)), (0, va_rf ((some q))), (1, va_rf (x1)), (2, va_rf (x2))]) hx hb zd_X8_firstWrong_11 hl (by decide) (by simp [List.filter, zv_cat, zv_ci, zv_cj]) (fun ls hl => ?_)
  replace hf := zo_b hf; obtain ⟨w30, w30e, hf⟩ := hf
  refine L13 x1 x2 2000 r1 v3 0 _ _ _ _ w30e hw (lv_sub hl [2, 3, 4, 1, 0] rfl) ?_ ?_
  · intro t31 H locs ls exw30 hw hl
    rw [exw30] at hf
    simp only [Sum.elim_inl, Sum.elim_inr] at hf
    refine lv_iconst (v := (-1)) hx hb zd_X8_firstWrong_94 (by decide) ?_
    have hres := Option.some.inj hf; subst hres
    exact zw_iret (v := (-1)) (ty := .int) hx hb hr hlk rfl hw zd_X8_firstWrong_95 (Nat.le_refl 0) (Nat.le_refl 0)
  · intro t32 H locs ls exw30 hw hl
    rw [exw30] at hf
    simp only [Sum.elim_inl, Sum.elim_inr] at hf
    refine lv_iload hx hb zd_X8_firstWrong_85 (lv_at hl 0 rfl) ?_
    have hres := Option.some.inj hf; subst hres
    exact zw_iret (v := t32) (ty := .int) hx hb hr hlk rfl hw zd_X8_firstWrong_87 (Nat.le_refl 0) (Nat.le_refl 0)
def zf_X8_isPlace (h : zc_H) (q : Nat) (x1 : Option Nat) (x2 : Int32) : Option (Int32) :=
  if ¬ zf_is h q 8 = true then none else
  if x2 < 0 then
    some 0
  else
  x1.bind fun a2 =>
  (zf_X4_count h a2).bind fun r3 =>
  (zf_gi h q 8 5).bind fun v4 =>
  if (r3 - v4) < x2 then
    some 0
  else
  some 1
abbrev zr_X8_isPlace : Room := { frames := 1, cells := 0, slots := 0, locals := 20 }
theorem zi_X8_isPlace {h : zc_H} {q : Nat} {x1 : Option Nat} {x2 : Int32} {res : Int32} (hf : zf_X8_isPlace h q x1 x2 = some res) : zf_is h q 8 = true := Decidable.not_not.mp (zo_n hf).1
set_option maxHeartbeats 4000000 in
set_option maxRecDepth 20000 in
theorem zt_X8_isPlace (l : Launch) (g : zc_G) (h : zc_H) (q : Nat) (x1 : Option Nat) (x2 : Int32) (res : Int32) (hf : zf_X8_isPlace h q x1 x2 = some res) : zc_M l g yX8_isPlace cX8_isPlace 3 (some .boolean) zr_X8_isPlace h [va_rf ((some q)), va_rf (x1), .int (x2)] h (some (.int (res))) := by
  refine zc_M.of (by decide) (by simp [lg_sl, zv_cat, zv_ci, zv_cj]) ?_
  intro p e s m below meth c ls S hK hw hr hlk hnm hl
  replace S : CallFix p m c cX8_isPlace 3 s [va_rf ((some q)), va_rf (x1), .int (x2)].toArray (zc_ws yX8_isPlace cX8_isPlace 3 (some .boolean)) RX8 := S
  have hx := S.1
  have hb := S.2.1
  replace hl : lv_has ls 3 [(0, va_rf ((some q))), (1, va_rf (x1)), (2, .int (x2))] := by simpa [lv_args, zv_cat, zv_ci, zv_cj] using hl
  generalize s.heap = H at hw ⊢
  obtain ⟨locs, hlocs⟩ : ∃ L : List Loc, L = [] := ⟨_, rfl⟩
  rw [← hlocs] at hw ⊢
  unfold zf_X8_isPlace at hf
  obtain ⟨-, hf⟩ := zo_n hf
  refine lv_iload_n hx hb zd_X8_isPlace_0 rfl (lv_at hl 2 rfl) ?_
  refine lv_if_lt (tgt := 21) hx hb zd_X8_isPlace_1 (by decide) (fun c1 => ?_) (fun c1 => ?_)
  · replace hf := zo_t c1 hf
    refine lv_iconst (v := 0) hx hb zd_X8_isPlace_21 (by decide) ?_
    have hres := Option.some.inj hf; subst hres
    exact zw_iret (v := 0) (ty := .boolean) hx hb hr hlk rfl hw zd_X8_isPlace_22 (Nat.le_refl 0) (Nat.le_refl 0)
  · replace hf := zo_f c1 hf
    refine lv_iload_n hx hb zd_X8_isPlace_4 rfl (lv_at hl 2 rfl) ?_
    refine zl_aload_n hx hb zd_X8_isPlace_5 rfl (lv_at hl 1 rfl) ?_
    replace hf := zo_b hf; obtain ⟨a2, na2, hf⟩ := hf
    refine W.eq (g2 := F0 m 6 ls [va_rf ((some a2)), .int (x2)]) (by rw [na2] <;> rfl) ?_
    replace hf := zo_b hf; obtain ⟨r3, er3, hf⟩ := hf
    refine zw_callV (n := 0) (ci := 4) (q := zc_cl[4]) (As := []) (rest := [.int (x2)]) S hK hw (zt_X4_count l g h a2 _ er3) zm_877 zm_618 zm_619 zq_X4_count zm_84 (by decide +kernel) ⟨Nat.le_of_ble_eq_true rfl, Nat.le_of_ble_eq_true rfl⟩ rfl rfl rfl (zi_X4_count er3) hl.1 rfl (by simp [zv_cat, zv_ci, zv_cj]) zd_X8_isPlace_6 ⟨(Nat.le_refl 0), (Nat.le_refl 0)⟩ (fun H locs hw => ?_)
    replace hw : zc_W g h H locs := hw
    refine zl_aload_n hx hb zd_X8_isPlace_9 rfl (lv_at hl 0 rfl) ?_
    replace hf := zo_b hf; obtain ⟨v4, ev4, hf⟩ := hf
    obtain ⟨u5, u5e, u5v⟩ := zo_b ev4
    obtain rfl := zv_i_e u5v
    refine zw_get S hK hw zk_8 (k := 5) (by decide) rfl zm_218 (Or.inl rfl) u5e zd_X8_isPlace_10 ?_
    refine lv_isub hx hb zd_X8_isPlace_13 ?_
    refine lv_icmp_gt (tgt := 21) hx hb zd_X8_isPlace_14 (by decide) (fun c6 => ?_) (fun c6 => ?_)
    · replace hf := zo_t c6 hf
      refine lv_iconst (v := 0) hx hb zd_X8_isPlace_21 (by decide) ?_
      have hres := Option.some.inj hf; subst hres
      exact zw_iret (v := 0) (ty := .boolean) hx hb hr hlk rfl hw zd_X8_isPlace_22 (Nat.le_refl 0) (Nat.le_refl 0)
    · replace hf := zo_f c6 hf
      refine lv_iconst (v := 1) hx hb zd_X8_isPlace_17 (by decide) ?_
      refine lv_goto (tgt := 22) hx hb zd_X8_isPlace_18 (by decide) ?_
      have hres := Option.some.inj hf; subst hres
      exact zw_iret (v := 1) (ty := .boolean) hx hb hr hlk rfl hw zd_X8_isPlace_22 (Nat.le_refl 0) (Nat.le_refl 0)
def zf_X9_init_L117 (q : Nat) : Nat → zc_H → Int32 → Option (zc_H)
  | 0, _, _ => none
  | n + 1, h, y1 =>
    if 8 ≤ y1 then
      some h
    else
    (zf_gr h q 9 0).bind fun v34 =>
    (some (zf_new h (.inr (5, [.int 0, .int 0, .null])))).bind fun h36 =>
    (zf_X5_init h36 h.2.1).bind fun r37 =>
    v34.bind fun a38 =>
    (zf_sr r37 a38 3 5 y1 h.2.1).bind fun h39 =>
    zf_X9_init_L117 q n h39 (y1 + 1)
def zf_X9_init (h : zc_H) (q : Nat) : Option (zc_H) :=
  if ¬ zf_is h q 9 = true then none else
  (some (zf_new h (.inl (3, 8, .inr (.inr (.inr (.inr (fun _ => none)))))))).bind fun h1 =>
  (zf_p h1 q 9 0 (va_rf ((some h.2.1)))).bind fun h2 =>
  (some (zf_new h2 (.inr (6, [.null, .null, .int 0, .int 0, .int 0, .int 0, .int 0])))).bind fun h3 =>
  (zf_X6_init h3 h2.2.1).bind fun r4 =>
  (zf_p r4 q 9 1 (va_rf ((some h2.2.1)))).bind fun h5 =>
  (some (zf_new h5 (.inr (6, [.null, .null, .int 0, .int 0, .int 0, .int 0, .int 0])))).bind fun h6 =>
  (zf_X6_init h6 h5.2.1).bind fun r7 =>
  (zf_p r7 q 9 2 (va_rf ((some h5.2.1)))).bind fun h8 =>
  (some (zf_new h8 (.inl (0, 8, .inl (fun _ => 0))))).bind fun h9 =>
  (zf_p h9 q 9 4 (va_rf ((some h8.2.1)))).bind fun h10 =>
  (zf_p h10 q 9 5 (.int ((-1)))).bind fun h11 =>
  (some (zf_new h11 (.inr (0, [.null, .int 0])))).bind fun h12 =>
  (zf_X0_init h12 h11.2.1).bind fun r13 =>
  (zf_p r13 q 9 6 (va_rf ((some h11.2.1)))).bind fun h14 =>
  (some (zf_new h14 (.inr (1, [.null, .null, .null, .int 0, .int 0])))).bind fun h15 =>
  (zf_X1_init h15 h14.2.1).bind fun r16 =>
  (zf_p r16 q 9 7 (va_rf ((some h14.2.1)))).bind fun h17 =>
  (some (zf_new h17 (.inr (8, [.null, .null, .int 0, .int 0, .null, .int 0, .int 0, .int 0, .int 0])))).bind fun h18 =>
  (zf_gr h18 q 9 1).bind fun v19 =>
  (zf_X8_init h18 h17.2.1 v19).bind fun r21 =>
  (zf_p r21 q 9 8 (va_rf ((some h17.2.1)))).bind fun h22 =>
  (some (zf_new h22 (.inr (7, [.null, .null, .null, .int 0, .int 0])))).bind fun h23 =>
  (zf_gr h23 q 9 1).bind fun v24 =>
  (zf_gr h23 q 9 8).bind fun v26 =>
  (zf_X7_init h23 h22.2.1 v24 v26).bind fun r28 =>
  (zf_p r28 q 9 9 (va_rf ((some h22.2.1)))).bind fun h29 =>
  (some (zf_new h29 (.inr (2, [.null, .int 0, .int 0, .int 0, .int 0])))).bind fun h30 =>
  (zf_X2_init h30 h29.2.1).bind fun r31 =>
  (zf_p r31 q 9 10 (va_rf ((some h29.2.1)))).bind fun h32 =>
  (zf_X9_init_L117 q 9 h32 0).bind fun w40 =>
  some w40
abbrev zr_X9_init : Room := { frames := 5, cells := 39, slots := 2297, locals := 121 }
theorem zi_X9_init {h : zc_H} {q : Nat} {res : zc_H} (hf : zf_X9_init h q = some res) : zf_is h q 9 = true := Decidable.not_not.mp (zo_n hf).1
set_option maxHeartbeats 4000000 in
set_option maxRecDepth 20000 in
theorem zt_X9_init (l : Launch) (g : zc_G) (h : zc_H) (q : Nat) (res : zc_H) (hf : zf_X9_init h q = some res) : zc_M l g yX9_init cX9_init 2 none zr_X9_init h [va_rf ((some q))] res none := by
  refine zc_M.of (by decide) (by simp [lg_sl, zv_cat, zv_ci, zv_cj]) ?_
  intro p e s m below meth c ls S hK hw hr hlk hnm hl
  replace S : CallFix p m c cX9_init 2 s [va_rf ((some q))].toArray (zc_ws yX9_init cX9_init 2 none) RX9 := S
  have hx := S.1
  have hb := S.2.1
  replace hl : lv_has ls 2 [(0, va_rf ((some q)))] := by simpa [lv_args, zv_cat, zv_ci, zv_cj] using hl
  generalize s.heap = H at hw ⊢
  obtain ⟨locs, hlocs⟩ : ∃ L : List Loc, L = [] := ⟨_, rfl⟩
  rw [← hlocs] at hw ⊢
  have L117 : ∀  (n : Nat) (h : zc_H) (y1 : Int32) (w : zc_H) (H : Heap) (locs : List Loc) (ls : Array Slot) (cl sl : Nat), cl + n * 2 ≤ 39 → sl + n * 163 ≤ 2297 → zf_X9_init_L117 q n h y1 = some w → zc_W g h H locs → lv_has ls 2 [(0, va_rf ((some q))), (1, .int (y1))] → (∀ (H : Heap) (locs : List Loc) (ls : Array Slot) (cl1 sl1 : Nat), cl1 ≤ cl + n * 2 → sl1 ≤ sl + n * 163 → zc_W g w H locs → lv_has ls 2 [] → W p l e zr_X9_init s m [va_rf ((some q))].toArray below meth c H locs cl1 sl1 (zc_Q g below zr_X9_init none res [va_rf ((some q))] s) (F0 m 142 ls [])) → W p l e zr_X9_init s m [va_rf ((some q))].toArray below meth c H locs cl sl (zc_Q g below zr_X9_init none res [va_rf ((some q))] s) (F0 m 117 ls []) := by
    intro n
    induction n with
    | zero =>
      intro h y1 w H locs ls cl sl hcl hsl hf
      cases hf
    | succ n ih =>
      intro h y1 w H locs ls cl sl hcl hsl hf hw hl  kk
      unfold zf_X9_init_L117 at hf
      refine lv_iload_n hx hb zd_X9_init_117 rfl (lv_at hl 1 rfl) ?_
      refine lv_bipush (v := 8) hx hb zd_X9_init_118 (by decide) ?_
      refine lv_icmp_ge (tgt := 142) hx hb zd_X9_init_120 (by decide) (fun c33 => ?_) (fun c33 => ?_)
      · replace hf := zo_t c33 hf
        have hres := Option.some.inj hf; subst hres
        exact kk _ _ _ _ _ (by omega) (by omega) hw (lv_sub hl [] rfl)
      · replace hf := zo_f c33 hf
        refine zl_aload_n hx hb zd_X9_init_123 rfl (lv_at hl 0 rfl) ?_
        replace hf := zo_b hf; obtain ⟨v34, ev34, hf⟩ := hf
        obtain ⟨u35, u35e, u35v⟩ := zo_b ev34
        obtain rfl := zv_r_e u35v
        refine zw_get S hK hw zk_9 (k := 0) (by decide) rfl zm_307 (Or.inl rfl) u35e zd_X9_init_124 ?_
        refine lv_iload_n hx hb zd_X9_init_127 rfl (lv_at hl 1 rfl) ?_
        replace hf := zo_b hf; obtain ⟨h36, eh36, hf⟩ := hf
        refine zw_new (ci := 5) (ty := tyX5) (fs := [.int 0, .int 0, .null]) S hK hw zk_5 (fun k hk => tyX5_ok k hk) (by decide) zm_97 zm_289 zm_78 (by show _ ≤ (39 : Nat); omega) (by show _ ≤ (2297 : Nat); omega) zd_X9_init_128 (fun H hw => ?_)
        replace hw : zc_W g h36 H locs := (Option.some.inj eh36) ▸ hw
        refine lv_dup hx hb zd_X9_init_131 rfl ?_
        replace hf := zo_b hf; obtain ⟨r37, er37, hf⟩ := hf
        refine zw_callIN (n := 0) (As := []) (rest := [va_rf ((some h.2.1)), .int (y1), va_rf (v34)]) S hK hw (zt_X5_init l g h36 h.2.1 _ er37) rfl zm_290 zm_291 zq_X5_init zm_78 (by decide +kernel) ⟨Nat.le_of_ble_eq_true rfl, Nat.le_of_ble_eq_true rfl⟩ rfl hl.1 rfl (by simp [zv_cat, zv_ci, zv_cj]) zd_X9_init_132 ⟨(by show (cl + 1) + (1 : Nat) ≤ (39 : Nat); omega), (by show (sl + 3) + (160 : Nat) ≤ (2297 : Nat); omega)⟩ (fun H locs hw => ?_)
        replace hw : zc_W g r37 H locs := hw
        refine W.widen (k := ((cl + 1) + 1)) (n := ((sl + 3) + 160)) (Nat.le_refl _) (Nat.le_refl _) ?_
        replace hf := zo_b hf; obtain ⟨a38, na38, hf⟩ := hf
        refine W.eq (g2 := F0 m 135 ls [va_rf ((some h.2.1)), .int (y1), va_rf ((some a38))]) (by rw [na38] <;> rfl) ?_
        replace hf := zo_b hf; obtain ⟨h39, eh39, hf⟩ := hf
        refine zw_aast (r := (RX5, TX5, 3)) S hK hw rfl (Nat.le_of_ble_eq_true rfl) rfl eh39 zd_X9_init_135 (fun H locs hw => ?_)
        refine lv_iinc (i := 1) (v := (y1 + 1)) (lv' := [(1, .int ((y1 + 1))), (0, va_rf ((some q)))]) hx hb zd_X9_init_136 hl (k := 1) rfl (congrArg (_ + ·) (by decide)) (by decide) rfl (fun ls hl => ?_)
        refine lv_goto (tgt := 117) hx hb zd_X9_init_139 (by decide) ?_
        exact ih h39 (y1 + 1) _ _ _ _ _ _ (by omega) (by omega) hf hw (lv_sub hl [1, 0] rfl) (fun H locs ls cl1 sl1 h1 h2 => kk H locs ls cl1 sl1 (by omega) (by omega))
  unfold zf_X9_init at hf
  obtain ⟨-, hf⟩ := zo_n hf
  refine zl_aload_n hx hb zd_X9_init_0 rfl (lv_at hl 0 rfl) ?_
  refine W.objInit hx hb S.2.2.2.1 (S.2.2.2.2 _ (List.mem_cons_of_mem _ zm_94)) (S.2.2.2.2 _ (List.mem_cons_of_mem _ zm_95)) (S.2.2.2.2 _ (List.mem_cons_of_mem _ zm_96)) rfl (by rw [S.2.2.1]; exact hl.1) rfl zd_X9_init_1 (Nat.le_of_ble_eq_true rfl) (by simp [F0, JFrame.monitorRoom, zv_cat, zv_ci, zv_cj, zr_X9_init]) ?_
  refine W.eq (g2 := F0 m 4 ls []) rfl ?_
  refine zl_aload_n hx hb zd_X9_init_4 rfl (lv_at hl 0 rfl) ?_
  refine lv_bipush (v := 8) hx hb zd_X9_init_5 (by decide) ?_
  replace hf := zo_b hf; obtain ⟨h1, eh1, hf⟩ := hf
  refine zw_newq (t := 3) (C := "LineRemarks$Shelf") (N := 8) (K := 8) S hK hw zm_97 hK.2.2.2.2.2.2.2.2.1 rfl (Nat.le_of_ble_eq_true rfl) (by decide) (by decide) (Nat.le_refl _) (by decide) (by show _ ≤ (39 : Nat); omega) (by show _ ≤ (2297 : Nat); omega) zd_X9_init_7 (fun H hw => ?_)
  replace hw : zc_W g h1 H locs := (Option.some.inj eh1) ▸ hw
  replace hf := zo_b hf; obtain ⟨h2, eh2, hf⟩ := hf
  refine zw_putF S hK hw zk_9 (k := 0) (by decide) rfl zm_307 hnm eh2 (ty := (.array (.object "LineRemarks$Shelf"))) (by decide +kernel) (zv_rnA _ _) (zv_rfA _ _) zd_X9_init_10 (fun H locs hw => ?_)
  refine zl_aload_n hx hb zd_X9_init_13 rfl (lv_at hl 0 rfl) ?_
  replace hf := zo_b hf; obtain ⟨h3, eh3, hf⟩ := hf
  refine zw_new (ci := 6) (ty := tyX6) (fs := [.null, .null, .int 0, .int 0, .int 0, .int 0, .int 0]) S hK hw zk_6 (fun k hk => tyX6_ok k hk) (by decide) zm_99 zm_100 zm_69 (by show _ ≤ (39 : Nat); omega) (by show _ ≤ (2297 : Nat); omega) zd_X9_init_14 (fun H hw => ?_)
  replace hw : zc_W g h3 H locs := (Option.some.inj eh3) ▸ hw
  refine lv_dup hx hb zd_X9_init_17 rfl ?_
  replace hf := zo_b hf; obtain ⟨r4, er4, hf⟩ := hf
  refine zw_callIN (n := 0) (As := []) (rest := [va_rf ((some h2.2.1)), va_rf ((some q))]) S hK hw (zt_X6_init l g h3 h2.2.1 _ er4) rfl zm_101 zm_102 zq_X6_init zm_69 (by decide +kernel) ⟨Nat.le_of_ble_eq_true rfl, Nat.le_of_ble_eq_true rfl⟩ rfl hl.1 rfl (by simp [zv_cat, zv_ci, zv_cj]) zd_X9_init_18 ⟨(by show ((0 + 1) + 1) + (2 : Nat) ≤ (39 : Nat); omega), (by show ((0 + 8) + 7) + (6 : Nat) ≤ (2297 : Nat); omega)⟩ (fun H locs hw => ?_)
  replace hw : zc_W g r4 H locs := hw
  refine W.widen (k := (((0 + 1) + 1) + 2)) (n := (((0 + 8) + 7) + 6)) (Nat.le_refl _) (Nat.le_refl _) ?_
  replace hf := zo_b hf; obtain ⟨h5, eh5, hf⟩ := hf
  refine zw_putF S hK hw zk_9 (k := 1) (by decide) rfl zm_308 hnm eh5 (ty := (.object "LineRemarks$State")) (by decide +kernel) (zv_rnO _ _) (zv_rfO _ _) zd_X9_init_21 (fun H locs hw => ?_)
  refine zl_aload_n hx hb zd_X9_init_24 rfl (lv_at hl 0 rfl) ?_
  replace hf := zo_b hf; obtain ⟨h6, eh6, hf⟩ := hf
  refine zw_new (ci := 6) (ty := tyX6) (fs := [.null, .null, .int 0, .int 0, .int 0, .int 0, .int 0]) S hK hw zk_6 (fun k hk => tyX6_ok k hk) (by decide) zm_99 zm_100 zm_69 (by show _ ≤ (39 : Nat); omega) (by show _ ≤ (2297 : Nat); omega) zd_X9_init_25 (fun H hw => ?_)
  replace hw : zc_W g h6 H locs := (Option.some.inj eh6) ▸ hw
  refine lv_dup hx hb zd_X9_init_28 rfl ?_
  replace hf := zo_b hf; obtain ⟨r7, er7, hf⟩ := hf
  refine zw_callIN (n := 0) (As := []) (rest := [va_rf ((some h5.2.1)), va_rf ((some q))]) S hK hw (zt_X6_init l g h6 h5.2.1 _ er7) rfl zm_101 zm_102 zq_X6_init zm_69 (by decide +kernel) ⟨Nat.le_of_ble_eq_true rfl, Nat.le_of_ble_eq_true rfl⟩ rfl hl.1 rfl (by simp [zv_cat, zv_ci, zv_cj]) zd_X9_init_29 ⟨(by show ((((0 + 1) + 1) + 2) + 1) + (2 : Nat) ≤ (39 : Nat); omega), (by show ((((0 + 8) + 7) + 6) + 7) + (6 : Nat) ≤ (2297 : Nat); omega)⟩ (fun H locs hw => ?_)
  replace hw : zc_W g r7 H locs := hw
  refine W.widen (k := (((((0 + 1) + 1) + 2) + 1) + 2)) (n := (((((0 + 8) + 7) + 6) + 7) + 6)) (Nat.le_refl _) (Nat.le_refl _) ?_
  replace hf := zo_b hf; obtain ⟨h8, eh8, hf⟩ := hf
  refine zw_putF S hK hw zk_9 (k := 2) (by decide) rfl zm_309 hnm eh8 (ty := (.object "LineRemarks$State")) (by decide +kernel) (zv_rnO _ _) (zv_rfO _ _) zd_X9_init_32 (fun H locs hw => ?_)
  refine zl_aload_n hx hb zd_X9_init_35 rfl (lv_at hl 0 rfl) ?_
  refine lv_bipush (v := 8) hx hb zd_X9_init_36 (by decide) ?_
  replace hf := zo_b hf; obtain ⟨h9, eh9, hf⟩ := hf
  refine zw_newa (atype := .int) (t := 0) (a0 := (8, .inl (fun _ => 0))) (ty := .int) (N := 8) (K := 8) S hK hw zm_175 rfl rfl (Nat.le_of_ble_eq_true rfl) (fun h => h) (fun _ => rfl) (by decide) (by decide) (Nat.le_refl _) (by decide) (by show _ ≤ (39 : Nat); omega) (by show _ ≤ (2297 : Nat); omega) zd_X9_init_38 (fun H hw => ?_)
  replace hw : zc_W g h9 H locs := (Option.some.inj eh9) ▸ hw
  replace hf := zo_b hf; obtain ⟨h10, eh10, hf⟩ := hf
  refine zw_putF S hK hw zk_9 (k := 4) (by decide) rfl zm_311 hnm eh10 (ty := (.array .int)) (by decide +kernel) (zv_rnA _ _) (zv_rfA _ _) zd_X9_init_40 (fun H locs hw => ?_)
  refine zl_aload_n hx hb zd_X9_init_43 rfl (lv_at hl 0 rfl) ?_
  refine lv_iconst (v := (-1)) hx hb zd_X9_init_44 (by decide) ?_
  replace hf := zo_b hf; obtain ⟨h11, eh11, hf⟩ := hf
  refine zw_put S hK hw zk_9 (k := 5) (by decide) rfl zm_312 (Or.inl rfl) eh11 (ty := .int) (by decide +kernel) rfl rfl zd_X9_init_45 (fun H locs hw => ?_)
  refine zl_aload_n hx hb zd_X9_init_48 rfl (lv_at hl 0 rfl) ?_
  replace hf := zo_b hf; obtain ⟨h12, eh12, hf⟩ := hf
  refine zw_new (ci := 0) (ty := tyX0) (fs := [.null, .int 0]) S hK hw zk_0 (fun k hk => tyX0_ok k hk) (by decide) zm_161 zm_162 zm_73 (by show _ ≤ (39 : Nat); omega) (by show _ ≤ (2297 : Nat); omega) zd_X9_init_49 (fun H hw => ?_)
  replace hw : zc_W g h12 H locs := (Option.some.inj eh12) ▸ hw
  refine lv_dup hx hb zd_X9_init_52 rfl ?_
  replace hf := zo_b hf; obtain ⟨r13, er13, hf⟩ := hf
  refine zw_callIN (n := 0) (As := []) (rest := [va_rf ((some h11.2.1)), va_rf ((some q))]) S hK hw (zt_X0_init l g h12 h11.2.1 _ er13) rfl zm_163 zm_164 zq_X0_init zm_73 (by decide +kernel) ⟨Nat.le_of_ble_eq_true rfl, Nat.le_of_ble_eq_true rfl⟩ rfl hl.1 rfl (by simp [zv_cat, zv_ci, zv_cj]) zd_X9_init_53 ⟨(by show (((((((0 + 1) + 1) + 2) + 1) + 2) + 1) + 1) + (1 : Nat) ≤ (39 : Nat); omega), (by show (((((((0 + 8) + 7) + 6) + 7) + 6) + 8) + 2) + (24 : Nat) ≤ (2297 : Nat); omega)⟩ (fun H locs hw => ?_)
  replace hw : zc_W g r13 H locs := hw
  refine W.widen (k := ((((((((0 + 1) + 1) + 2) + 1) + 2) + 1) + 1) + 1)) (n := ((((((((0 + 8) + 7) + 6) + 7) + 6) + 8) + 2) + 24)) (Nat.le_refl _) (Nat.le_refl _) ?_
  replace hf := zo_b hf; obtain ⟨h14, eh14, hf⟩ := hf
  refine zw_putF S hK hw zk_9 (k := 6) (by decide) rfl zm_313 hnm eh14 (ty := (.object "LineRemarks$Draft")) (by decide +kernel) (zv_rnO _ _) (zv_rfO _ _) zd_X9_init_56 (fun H locs hw => ?_)
  refine zl_aload_n hx hb zd_X9_init_59 rfl (lv_at hl 0 rfl) ?_
  replace hf := zo_b hf; obtain ⟨h15, eh15, hf⟩ := hf
  refine zw_new (ci := 1) (ty := tyX1) (fs := [.null, .null, .null, .int 0, .int 0]) S hK hw zk_1 (fun k hk => tyX1_ok k hk) (by decide) zm_177 zm_178 zm_74 (by show _ ≤ (39 : Nat); omega) (by show _ ≤ (2297 : Nat); omega) zd_X9_init_60 (fun H hw => ?_)
  replace hw : zc_W g h15 H locs := (Option.some.inj eh15) ▸ hw
  refine lv_dup hx hb zd_X9_init_63 rfl ?_
  replace hf := zo_b hf; obtain ⟨r16, er16, hf⟩ := hf
  refine zw_callIN (n := 0) (As := []) (rest := [va_rf ((some h14.2.1)), va_rf ((some q))]) S hK hw (zt_X1_init l g h15 h14.2.1 _ er16) rfl zm_179 zm_180 zq_X1_init zm_74 (by decide +kernel) ⟨Nat.le_of_ble_eq_true rfl, Nat.le_of_ble_eq_true rfl⟩ rfl hl.1 rfl (by simp [zv_cat, zv_ci, zv_cj]) zd_X9_init_64 ⟨(by show (((((((((0 + 1) + 1) + 2) + 1) + 2) + 1) + 1) + 1) + 1) + (3 : Nat) ≤ (39 : Nat); omega), (by show (((((((((0 + 8) + 7) + 6) + 7) + 6) + 8) + 2) + 24) + 5) + (673 : Nat) ≤ (2297 : Nat); omega)⟩ (fun H locs hw => ?_)
  replace hw : zc_W g r16 H locs := hw
  refine W.widen (k := ((((((((((0 + 1) + 1) + 2) + 1) + 2) + 1) + 1) + 1) + 1) + 3)) (n := ((((((((((0 + 8) + 7) + 6) + 7) + 6) + 8) + 2) + 24) + 5) + 673)) (Nat.le_refl _) (Nat.le_refl _) ?_
  replace hf := zo_b hf; obtain ⟨h17, eh17, hf⟩ := hf
  refine zw_putF S hK hw zk_9 (k := 7) (by decide) rfl zm_314 hnm eh17 (ty := (.object "LineRemarks$Matching")) (by decide +kernel) (zv_rnO _ _) (zv_rfO _ _) zd_X9_init_67 (fun H locs hw => ?_)
  refine zl_aload_n hx hb zd_X9_init_70 rfl (lv_at hl 0 rfl) ?_
  replace hf := zo_b hf; obtain ⟨h18, eh18, hf⟩ := hf
  refine zw_new (ci := 8) (ty := tyX8) (fs := [.null, .null, .int 0, .int 0, .null, .int 0, .int 0, .int 0, .int 0]) S hK hw zk_8 (fun k hk => tyX8_ok k hk) (by decide) zm_202 zm_203 zm_75 (by show _ ≤ (39 : Nat); omega) (by show _ ≤ (2297 : Nat); omega) zd_X9_init_71 (fun H hw => ?_)
  replace hw : zc_W g h18 H locs := (Option.some.inj eh18) ▸ hw
  refine lv_dup hx hb zd_X9_init_74 rfl ?_
  refine zl_aload_n hx hb zd_X9_init_75 rfl (lv_at hl 0 rfl) ?_
  replace hf := zo_b hf; obtain ⟨v19, ev19, hf⟩ := hf
  obtain ⟨u20, u20e, u20v⟩ := zo_b ev19
  obtain rfl := zv_r_e u20v
  refine zw_get S hK hw zk_9 (k := 1) (by decide) rfl zm_308 (Or.inl rfl) u20e zd_X9_init_76 ?_
  replace hf := zo_b hf; obtain ⟨r21, er21, hf⟩ := hf
  refine zw_callI (n := 1) (As := [va_rf (v19)]) (rest := [va_rf ((some h17.2.1)), va_rf ((some q))]) S hK hw (zt_X8_init l g h18 h17.2.1 v19 _ er21) rfl zm_204 zm_205 zq_X8_init zm_75 (by decide +kernel) ⟨Nat.le_of_ble_eq_true rfl, Nat.le_of_ble_eq_true rfl⟩ rfl hl.1 rfl (by simp [zv_cat, zv_ci, zv_cj]) zd_X9_init_79 ⟨(by show (((((((((((0 + 1) + 1) + 2) + 1) + 2) + 1) + 1) + 1) + 1) + 3) + 1) + (2 : Nat) ≤ (39 : Nat); omega), (by show (((((((((((0 + 8) + 7) + 6) + 7) + 6) + 8) + 2) + 24) + 5) + 673) + 9) + (29 : Nat) ≤ (2297 : Nat); omega)⟩ (fun H locs hw => ?_)
  replace hw : zc_W g r21 H locs := hw
  refine W.widen (k := ((((((((((((0 + 1) + 1) + 2) + 1) + 2) + 1) + 1) + 1) + 1) + 3) + 1) + 2)) (n := ((((((((((((0 + 8) + 7) + 6) + 7) + 6) + 8) + 2) + 24) + 5) + 673) + 9) + 29)) (Nat.le_refl _) (Nat.le_refl _) ?_
  replace hf := zo_b hf; obtain ⟨h22, eh22, hf⟩ := hf
  refine zw_putF S hK hw zk_9 (k := 8) (by decide) rfl zm_315 hnm eh22 (ty := (.object "LineRemarks$Walk")) (by decide +kernel) (zv_rnO _ _) (zv_rfO _ _) zd_X9_init_82 (fun H locs hw => ?_)
  refine zl_aload_n hx hb zd_X9_init_85 rfl (lv_at hl 0 rfl) ?_
  replace hf := zo_b hf; obtain ⟨h23, eh23, hf⟩ := hf
  refine zw_new (ci := 7) (ty := tyX7) (fs := [.null, .null, .null, .int 0, .int 0]) S hK hw zk_7 (fun k hk => tyX7_ok k hk) (by decide) zm_242 zm_243 zm_76 (by show _ ≤ (39 : Nat); omega) (by show _ ≤ (2297 : Nat); omega) zd_X9_init_86 (fun H hw => ?_)
  replace hw : zc_W g h23 H locs := (Option.some.inj eh23) ▸ hw
  refine lv_dup hx hb zd_X9_init_89 rfl ?_
  refine zl_aload_n hx hb zd_X9_init_90 rfl (lv_at hl 0 rfl) ?_
  replace hf := zo_b hf; obtain ⟨v24, ev24, hf⟩ := hf
  obtain ⟨u25, u25e, u25v⟩ := zo_b ev24
  obtain rfl := zv_r_e u25v
  refine zw_get S hK hw zk_9 (k := 1) (by decide) rfl zm_308 (Or.inl rfl) u25e zd_X9_init_91 ?_
  refine zl_aload_n hx hb zd_X9_init_94 rfl (lv_at hl 0 rfl) ?_
  replace hf := zo_b hf; obtain ⟨v26, ev26, hf⟩ := hf
  obtain ⟨u27, u27e, u27v⟩ := zo_b ev26
  obtain rfl := zv_r_e u27v
  refine zw_get S hK hw zk_9 (k := 8) (by decide) rfl zm_315 (Or.inl rfl) u27e zd_X9_init_95 ?_
  replace hf := zo_b hf; obtain ⟨r28, er28, hf⟩ := hf
  refine zw_callI (n := 2) (As := [va_rf (v24), va_rf (v26)]) (rest := [va_rf ((some h22.2.1)), va_rf ((some q))]) S hK hw (zt_X7_init l g h23 h22.2.1 v24 v26 _ er28) rfl zm_244 zm_245 zq_X7_init zm_76 (by decide +kernel) ⟨Nat.le_of_ble_eq_true rfl, Nat.le_of_ble_eq_true rfl⟩ rfl hl.1 rfl (by simp [zv_cat, zv_ci, zv_cj]) zd_X9_init_98 ⟨(by show (((((((((((((0 + 1) + 1) + 2) + 1) + 2) + 1) + 1) + 1) + 1) + 3) + 1) + 2) + 1) + (1 : Nat) ≤ (39 : Nat); omega), (by show (((((((((((((0 + 8) + 7) + 6) + 7) + 6) + 8) + 2) + 24) + 5) + 673) + 9) + 29) + 5) + (16 : Nat) ≤ (2297 : Nat); omega)⟩ (fun H locs hw => ?_)
  replace hw : zc_W g r28 H locs := hw
  refine W.widen (k := ((((((((((((((0 + 1) + 1) + 2) + 1) + 2) + 1) + 1) + 1) + 1) + 3) + 1) + 2) + 1) + 1)) (n := ((((((((((((((0 + 8) + 7) + 6) + 7) + 6) + 8) + 2) + 24) + 5) + 673) + 9) + 29) + 5) + 16)) (Nat.le_refl _) (Nat.le_refl _) ?_
  replace hf := zo_b hf; obtain ⟨h29, eh29, hf⟩ := hf
  refine zw_putF S hK hw zk_9 (k := 9) (by decide) rfl zm_316 hnm eh29 (ty := (.object "LineRemarks$Survey")) (by decide +kernel) (zv_rnO _ _) (zv_rfO _ _) zd_X9_init_101 (fun H locs hw => ?_)
  refine zl_aload_n hx hb zd_X9_init_104 rfl (lv_at hl 0 rfl) ?_
  replace hf := zo_b hf; obtain ⟨h30, eh30, hf⟩ := hf
  refine zw_new (ci := 2) (ty := tyX2) (fs := [.null, .int 0, .int 0, .int 0, .int 0]) S hK hw zk_2 (fun k hk => tyX2_ok k hk) (by decide) zm_266 zm_267 zm_77 (by show _ ≤ (39 : Nat); omega) (by show _ ≤ (2297 : Nat); omega) zd_X9_init_105 (fun H hw => ?_)
  replace hw : zc_W g h30 H locs := (Option.some.inj eh30) ▸ hw
  refine lv_dup hx hb zd_X9_init_108 rfl ?_
  replace hf := zo_b hf; obtain ⟨r31, er31, hf⟩ := hf
  refine zw_callIN (n := 0) (As := []) (rest := [va_rf ((some h29.2.1)), va_rf ((some q))]) S hK hw (zt_X2_init l g h30 h29.2.1 _ er31) rfl zm_268 zm_269 zq_X2_init zm_77 (by decide +kernel) ⟨Nat.le_of_ble_eq_true rfl, Nat.le_of_ble_eq_true rfl⟩ rfl hl.1 rfl (by simp [zv_cat, zv_ci, zv_cj]) zd_X9_init_109 ⟨(by show (((((((((((((((0 + 1) + 1) + 2) + 1) + 2) + 1) + 1) + 1) + 1) + 3) + 1) + 2) + 1) + 1) + 1) + (1 : Nat) ≤ (39 : Nat); omega), (by show (((((((((((((((0 + 8) + 7) + 6) + 7) + 6) + 8) + 2) + 24) + 5) + 673) + 9) + 29) + 5) + 16) + 5) + (20 : Nat) ≤ (2297 : Nat); omega)⟩ (fun H locs hw => ?_)
  replace hw : zc_W g r31 H locs := hw
  refine W.widen (k := ((((((((((((((((0 + 1) + 1) + 2) + 1) + 2) + 1) + 1) + 1) + 1) + 3) + 1) + 2) + 1) + 1) + 1) + 1)) (n := ((((((((((((((((0 + 8) + 7) + 6) + 7) + 6) + 8) + 2) + 24) + 5) + 673) + 9) + 29) + 5) + 16) + 5) + 20)) (Nat.le_refl _) (Nat.le_refl _) ?_
  replace hf := zo_b hf; obtain ⟨h32, eh32, hf⟩ := hf
  refine zw_putF S hK hw zk_9 (k := 10) (by decide) rfl zm_317 hnm eh32 (ty := (.object "LineRemarks$Moves")) (by decide +kernel) (zv_rnO _ _) (zv_rfO _ _) zd_X9_init_112 (fun H locs hw => ?_)
  refine lv_iconst (v := 0) hx hb zd_X9_init_115 (by decide) ?_
  refine lv_istore_n (i := 1) (lv' := [(1, .int (0)), (0, va_rf ((some q)))]) hx hb zd_X9_init_116 rfl hl (by decide) rfl (fun ls hl => ?_)
  replace hf := zo_b hf; obtain ⟨w40, w40e, hf⟩ := hf
  refine L117  9 h32 0 _ _ _ _ _ _ (by omega) (by omega) w40e hw (lv_sub hl [1, 0] rfl) (fun H locs ls cl41 sl42 hcl41 hsl42 hw hl => ?_)
  have hres := Option.some.inj hf; subst hres
  exact zw_vret hx hb hr hlk hw zd_X9_init_142 (by show _ ≤ (39 : Nat); omega) (by show _ ≤ (2297 : Nat); omega)
def zf_X9_shelfAt (h : zc_H) (q : Nat) (x1 : Int32) : Option (Option Nat) :=
  if ¬ zf_is h q 9 = true then none else
  if x1 < 0 then
    some none
  else
  (zf_gr h q 9 0).bind fun v2 =>
  v2.bind fun a4 =>
  (zf_len h a4).bind fun v5 =>
  if v5 ≤ x1 then
    some none
  else
  (zf_gr h q 9 0).bind fun v7 =>
  v7.bind fun a9 =>
  (zf_ar h a9 3 x1).bind fun v10 =>
  some v10
abbrev zr_X9_shelfAt : Room := { frames := 0, cells := 0, slots := 0, locals := 0 }
theorem zi_X9_shelfAt {h : zc_H} {q : Nat} {x1 : Int32} {res : Option Nat} (hf : zf_X9_shelfAt h q x1 = some res) : zf_is h q 9 = true := Decidable.not_not.mp (zo_n hf).1
set_option maxHeartbeats 4000000 in
set_option maxRecDepth 20000 in
theorem zt_X9_shelfAt (l : Launch) (g : zc_G) (h : zc_H) (q : Nat) (x1 : Int32) (res : Option Nat) (hf : zf_X9_shelfAt h q x1 = some res) : zc_M l g yX9_shelfAt cX9_shelfAt 2 (some (.object "LineRemarks$Shelf")) zr_X9_shelfAt h [va_rf ((some q)), .int (x1)] h (some (va_rf (res))) := by
  refine zc_M.of (by decide) (by simp [lg_sl, zv_cat, zv_ci, zv_cj]) ?_
  intro p e s m below meth c ls S hK hw hr hlk hnm hl
  replace S : CallFix p m c cX9_shelfAt 2 s [va_rf ((some q)), .int (x1)].toArray (zc_ws yX9_shelfAt cX9_shelfAt 2 (some (.object "LineRemarks$Shelf"))) RX9 := S
  have hx := S.1
  have hb := S.2.1
  replace hl : lv_has ls 2 [(0, va_rf ((some q))), (1, .int (x1))] := by simpa [lv_args, zv_cat, zv_ci, zv_cj] using hl
  generalize s.heap = H at hw ⊢
  obtain ⟨locs, hlocs⟩ : ∃ L : List Loc, L = [] := ⟨_, rfl⟩
  rw [← hlocs] at hw ⊢
  unfold zf_X9_shelfAt at hf
  obtain ⟨-, hf⟩ := zo_n hf
  refine lv_iload_n hx hb zd_X9_shelfAt_0 rfl (lv_at hl 1 rfl) ?_
  refine lv_if_lt (tgt := 22) hx hb zd_X9_shelfAt_1 (by decide) (fun c1 => ?_) (fun c1 => ?_)
  · replace hf := zo_t c1 hf
    refine zl_null hx hb zd_X9_shelfAt_22 ?_
    have hres := Option.some.inj hf; subst hres
    exact zw_aret hx hb hr (by first | exact Or.inl ⟨_, rfl⟩ | exact Or.inr ⟨_, rfl⟩) hlk hw zd_X9_shelfAt_23 (Nat.le_refl 0) (Nat.le_refl 0)
  · replace hf := zo_f c1 hf
    refine lv_iload_n hx hb zd_X9_shelfAt_4 rfl (lv_at hl 1 rfl) ?_
    refine zl_aload_n hx hb zd_X9_shelfAt_5 rfl (lv_at hl 0 rfl) ?_
    replace hf := zo_b hf; obtain ⟨v2, ev2, hf⟩ := hf
    obtain ⟨u3, u3e, u3v⟩ := zo_b ev2
    obtain rfl := zv_r_e u3v
    refine zw_get S hK hw zk_9 (k := 0) (by decide) rfl zm_307 (Or.inl rfl) u3e zd_X9_shelfAt_6 ?_
    replace hf := zo_b hf; obtain ⟨a4, na4, hf⟩ := hf
    refine W.eq (g2 := F0 m 9 ls [va_rf ((some a4)), .int (x1)]) (by rw [na4] <;> rfl) ?_
    replace hf := zo_b hf; obtain ⟨v5, ev5, hf⟩ := hf
    refine zw_alen S hK hw ev5 zd_X9_shelfAt_9 ?_
    refine lv_icmp_ge (tgt := 22) hx hb zd_X9_shelfAt_10 (by decide) (fun c6 => ?_) (fun c6 => ?_)
    · replace hf := zo_t c6 hf
      refine zl_null hx hb zd_X9_shelfAt_22 ?_
      have hres := Option.some.inj hf; subst hres
      exact zw_aret hx hb hr (by first | exact Or.inl ⟨_, rfl⟩ | exact Or.inr ⟨_, rfl⟩) hlk hw zd_X9_shelfAt_23 (Nat.le_refl 0) (Nat.le_refl 0)
    · replace hf := zo_f c6 hf
      refine zl_aload_n hx hb zd_X9_shelfAt_13 rfl (lv_at hl 0 rfl) ?_
      replace hf := zo_b hf; obtain ⟨v7, ev7, hf⟩ := hf
      obtain ⟨u8, u8e, u8v⟩ := zo_b ev7
      obtain rfl := zv_r_e u8v
      refine zw_get S hK hw zk_9 (k := 0) (by decide) rfl zm_307 (Or.inl rfl) u8e zd_X9_shelfAt_14 ?_
      refine lv_iload_n hx hb zd_X9_shelfAt_17 rfl (lv_at hl 1 rfl) ?_
      replace hf := zo_b hf; obtain ⟨a9, na9, hf⟩ := hf
      refine W.eq (g2 := F0 m 18 ls [.int (x1), va_rf ((some a9))]) (by rw [na9] <;> rfl) ?_
      replace hf := zo_b hf; obtain ⟨v10, ev10, hf⟩ := hf
      refine zw_aald (C := "LineRemarks$Shelf") S hK hw rfl ev10 zd_X9_shelfAt_18 ?_
      refine lv_goto (tgt := 23) hx hb zd_X9_shelfAt_19 (by decide) ?_
      have hres := Option.some.inj hf; subst hres
      exact zw_aret hx hb hr (by first | exact Or.inl ⟨_, rfl⟩ | exact Or.inr ⟨_, rfl⟩) hlk hw zd_X9_shelfAt_23 (Nat.le_refl 0) (Nat.le_refl 0)
def zf_X9_refuse (h : zc_H) (q : Nat) (x1 : Int32) : Option (zc_H × Int32) :=
  if ¬ zf_is h q 9 = true then none else
  if ((-x1) - (-x1) / 10 * 10) ≤ 0 then
    some (h, x1)
  else
  (zf_gr h q 9 4).bind fun v3 =>
  v3.bind fun a5 =>
  (zf_len h a5).bind fun v6 =>
  if v6 ≤ ((-x1) - (-x1) / 10 * 10) then
    some (h, x1)
  else
  (zf_gr h q 9 4).bind fun v8 =>
  v8.bind fun a10 =>
  (zf_ai h a10 0 ((-x1) - (-x1) / 10 * 10)).bind fun v11 =>
  (zf_si h a10 0 ((-x1) - (-x1) / 10 * 10) (v11 + 1)).bind fun h12 =>
  some (h12, x1)
abbrev zr_X9_refuse : Room := { frames := 0, cells := 0, slots := 0, locals := 0 }
theorem zi_X9_refuse {h : zc_H} {q : Nat} {x1 : Int32} {res : zc_H × Int32} (hf : zf_X9_refuse h q x1 = some res) : zf_is h q 9 = true := Decidable.not_not.mp (zo_n hf).1
set_option maxHeartbeats 4000000 in
set_option maxRecDepth 20000 in
theorem zt_X9_refuse (l : Launch) (g : zc_G) (h : zc_H) (q : Nat) (x1 : Int32) (res : zc_H × Int32) (hf : zf_X9_refuse h q x1 = some res) : zc_M l g yX9_refuse cX9_refuse 3 (some .int) zr_X9_refuse h [va_rf ((some q)), .int (x1)] res.1 (some (.int (res.2))) := by
  refine zc_M.of (by decide) (by simp [lg_sl, zv_cat, zv_ci, zv_cj]) ?_
  intro p e s m below meth c ls S hK hw hr hlk hnm hl
  replace S : CallFix p m c cX9_refuse 3 s [va_rf ((some q)), .int (x1)].toArray (zc_ws yX9_refuse cX9_refuse 3 (some .int)) RX9 := S
  have hx := S.1
  have hb := S.2.1
  replace hl : lv_has ls 3 [(0, va_rf ((some q))), (1, .int (x1))] := by simpa [lv_args, zv_cat, zv_ci, zv_cj] using hl
  generalize s.heap = H at hw ⊢
  obtain ⟨locs, hlocs⟩ : ∃ L : List Loc, L = [] := ⟨_, rfl⟩
  rw [← hlocs] at hw ⊢
  unfold zf_X9_refuse at hf
  obtain ⟨-, hf⟩ := zo_n hf
  refine lv_iload_n hx hb zd_X9_refuse_0 rfl (lv_at hl 1 rfl) ?_
  refine lv_ineg hx hb zd_X9_refuse_1 ?_
  refine lv_bipush (v := 10) hx hb zd_X9_refuse_2 (by decide) ?_
  refine lv_irem hx hb zd_X9_refuse_4 (by decide) ?_
  refine lv_istore_n (i := 2) (lv' := [(2, .int (((-x1) - (-x1) / 10 * 10))), (0, va_rf ((some q))), (1, .int (x1))]) hx hb zd_X9_refuse_5 rfl hl (by decide) rfl (fun ls hl => ?_)
  refine lv_iload_n hx hb zd_X9_refuse_6 rfl (lv_at hl 0 rfl) ?_
  refine lv_if_le (tgt := 29) hx hb zd_X9_refuse_7 (by decide) (fun c2 => ?_) (fun c2 => ?_)
  · replace hf := zo_t c2 hf
    refine lv_iload_n hx hb zd_X9_refuse_29 rfl (lv_at hl 2 rfl) ?_
    have hres := Option.some.inj hf; subst hres
    exact zw_iret (v := x1) (ty := .int) hx hb hr hlk rfl hw zd_X9_refuse_30 (Nat.le_refl 0) (Nat.le_refl 0)
  · replace hf := zo_f c2 hf
    refine lv_iload_n hx hb zd_X9_refuse_10 rfl (lv_at hl 0 rfl) ?_
    refine zl_aload_n hx hb zd_X9_refuse_11 rfl (lv_at hl 1 rfl) ?_
    replace hf := zo_b hf; obtain ⟨v3, ev3, hf⟩ := hf
    obtain ⟨u4, u4e, u4v⟩ := zo_b ev3
    obtain rfl := zv_r_e u4v
    refine zw_get S hK hw zk_9 (k := 4) (by decide) rfl zm_311 (Or.inl rfl) u4e zd_X9_refuse_12 ?_
    replace hf := zo_b hf; obtain ⟨a5, na5, hf⟩ := hf
    refine W.eq (g2 := F0 m 15 ls [va_rf ((some a5)), .int (((-x1) - (-x1) / 10 * 10))]) (by rw [na5] <;> rfl) ?_
    replace hf := zo_b hf; obtain ⟨v6, ev6, hf⟩ := hf
    refine zw_alen S hK hw ev6 zd_X9_refuse_15 ?_
    refine lv_icmp_ge (tgt := 29) hx hb zd_X9_refuse_16 (by decide) (fun c7 => ?_) (fun c7 => ?_)
    · replace hf := zo_t c7 hf
      refine lv_iload_n hx hb zd_X9_refuse_29 rfl (lv_at hl 2 rfl) ?_
      have hres := Option.some.inj hf; subst hres
      exact zw_iret (v := x1) (ty := .int) hx hb hr hlk rfl hw zd_X9_refuse_30 (Nat.le_refl 0) (Nat.le_refl 0)
    · replace hf := zo_f c7 hf
      refine zl_aload_n hx hb zd_X9_refuse_19 rfl (lv_at hl 1 rfl) ?_
      replace hf := zo_b hf; obtain ⟨v8, ev8, hf⟩ := hf
      obtain ⟨u9, u9e, u9v⟩ := zo_b ev8
      obtain rfl := zv_r_e u9v
      refine zw_get S hK hw zk_9 (k := 4) (by decide) rfl zm_311 (Or.inl rfl) u9e zd_X9_refuse_20 ?_
      refine lv_iload_n hx hb zd_X9_refuse_23 rfl (lv_at hl 0 rfl) ?_
      refine lv_dup2_11 hx hb zd_X9_refuse_24 rfl (zv_cat _) ?_
      replace hf := zo_b hf; obtain ⟨a10, na10, hf⟩ := hf
      refine W.eq (g2 := F0 m 25 ls [.int (((-x1) - (-x1) / 10 * 10)), va_rf ((some a10)), .int (((-x1) - (-x1) / 10 * 10)), va_rf (v8)]) (by rw [na10] <;> rfl) ?_
      replace hf := zo_b hf; obtain ⟨v11, ev11, hf⟩ := hf
      refine zw_iald S hK hw ev11 zd_X9_refuse_25 ?_
      refine lv_iconst (v := 1) hx hb zd_X9_refuse_26 (by decide) ?_
      refine lv_iadd hx hb zd_X9_refuse_27 ?_
      refine W.eq (g2 := F0 m 28 ls [.int ((v11 + 1)), .int (((-x1) - (-x1) / 10 * 10)), va_rf ((some a10))]) (by rw [na10] <;> rfl) ?_
      replace hf := zo_b hf; obtain ⟨h12, eh12, hf⟩ := hf
      refine zw_iast S hK hw eh12 zd_X9_refuse_28 (fun H locs hw => ?_)
      refine lv_iload_n hx hb zd_X9_refuse_29 rfl (lv_at hl 2 rfl) ?_
      have hres := Option.some.inj hf; subst hres
      exact zw_iret (v := x1) (ty := .int) hx hb hr hlk rfl hw zd_X9_refuse_30 (Nat.le_refl 0) (Nat.le_refl 0)
def zf_X9_row (h : zc_H) (q : Nat) (x1 : Int32) (x2 : Int32) (x3 : Int32) : Option (zc_H × Int32) :=
  if ¬ zf_is h q 9 = true then none else
  (zf_X9_shelfAt h q x1).bind fun r1 =>
  if r1 = none then
    (zf_X9_refuse h q (-1)).bind fun r12 =>
    some (r12.1, r12.2)
  else
  if 0 ≤ x3 then
    let k38 := fun (_ : Unit) =>
      (zf_X9_refuse h q (-6)).bind fun r5 =>
      some (r5.1, r5.2)
    if x2 < 0 then
      k38 ()
    else
    if x2 < 4 then
      if x3 ≤ 160 then
        r1.bind fun a8 =>
        (zf_X5_holdRow h a8 x2 x3).bind fun r9 =>
        some (r9, 1)
      else
      (zf_X9_refuse h q (-7)).bind fun r10 =>
      some (r10.1, r10.2)
    else
    k38 ()
  else
  (zf_X9_refuse h q (-4)).bind fun r11 =>
  some (r11.1, r11.2)
abbrev zr_X9_row : Room := { frames := 2, cells := 0, slots := 0, locals := 46 }
theorem zi_X9_row {h : zc_H} {q : Nat} {x1 : Int32} {x2 : Int32} {x3 : Int32} {res : zc_H × Int32} (hf : zf_X9_row h q x1 x2 x3 = some res) : zf_is h q 9 = true := Decidable.not_not.mp (zo_n hf).1
set_option maxHeartbeats 4000000 in
set_option maxRecDepth 20000 in
theorem zt_X9_row (l : Launch) (g : zc_G) (h : zc_H) (q : Nat) (x1 : Int32) (x2 : Int32) (x3 : Int32) (res : zc_H × Int32) (hf : zf_X9_row h q x1 x2 x3 = some res) : zc_M l g yX9_row cX9_row 5 (some .int) zr_X9_row h [va_rf ((some q)), .int (x1), .int (x2), .int (x3)] res.1 (some (.int (res.2))) := by
  refine zc_M.of (by decide) (by simp [lg_sl, zv_cat, zv_ci, zv_cj]) ?_
  intro p e s m below meth c ls S hK hw hr hlk hnm hl
  replace S : CallFix p m c cX9_row 5 s [va_rf ((some q)), .int (x1), .int (x2), .int (x3)].toArray (zc_ws yX9_row cX9_row 5 (some .int)) RX9 := S
  have hx := S.1
  have hb := S.2.1
  replace hl : lv_has ls 5 [(0, va_rf ((some q))), (1, .int (x1)), (2, .int (x2)), (3, .int (x3))] := by simpa [lv_args, zv_cat, zv_ci, zv_cj] using hl
  generalize s.heap = H at hw ⊢
  obtain ⟨locs, hlocs⟩ : ∃ L : List Loc, L = [] := ⟨_, rfl⟩
  rw [← hlocs] at hw ⊢
  unfold zf_X9_row at hf
  obtain ⟨-, hf⟩ := zo_n hf
  refine zl_aload_n hx hb zd_X9_row_0 rfl (lv_at hl 0 rfl) ?_
  refine lv_iload_n hx hb zd_X9_row_1 rfl (lv_at hl 1 rfl) ?_
  replace hf := zo_b hf; obtain ⟨r1, er1, hf⟩ := hf
  refine zw_callV (n := 1) (ci := 9) (q := zc_cl[9]) (As := [.int (x1)]) (rest := []) S hK hw (zt_X9_shelfAt l g h q x1 _ er1) zm_345 zm_347 zm_0 zq_X9_shelfAt zm_68 (by decide +kernel) ⟨Nat.le_of_ble_eq_true rfl, Nat.le_of_ble_eq_true rfl⟩ rfl rfl rfl (zi_X9_shelfAt er1) hl.1 rfl (by simp [zv_cat, zv_ci, zv_cj]) zd_X9_row_2 ⟨(Nat.le_refl 0), (Nat.le_refl 0)⟩ (fun H locs hw => ?_)
  replace hw : zc_W g h H locs := hw
  refine zl_astore (i := 4) (lv' := [(4, va_rf (r1)), (0, va_rf ((some q))), (1, .int (x1)), (2, .int (x2)), (3, .int (x3))]) hx hb zd_X9_row_5 hl (by decide) rfl (fun ls hl => ?_)
  refine zl_aload hx hb zd_X9_row_7 (lv_at hl 0 rfl) ?_
  refine zl_ifnonnull (tgt := 18) hx hb zd_X9_row_9 (by decide) (fun c2 => ?_) (fun c2 => ?_)
  · replace hf := zo_f c2 hf
    refine lv_iload_n hx hb zd_X9_row_18 rfl (lv_at hl 4 rfl) ?_
    refine lv_if_ge (tgt := 29) hx hb zd_X9_row_19 (by decide) (fun c3 => ?_) (fun c3 => ?_)
    · replace hf := zo_t c3 hf
      refine lv_iload_n hx hb zd_X9_row_29 rfl (lv_at hl 3 rfl) ?_
      have k38h : ∀ (_ : Unit) (H : Heap) (locs : List Loc) (ls : Array Slot), (
          (zf_X9_refuse h q (-6)).bind fun r5 =>
          some (r5.1, r5.2)
          ) = some res → zc_W g h H locs → lv_has ls 5 [(0, va_rf ((some q)))] → W p l e zr_X9_row s m [va_rf ((some q)), .int (x1), .int (x2), .int (x3)].toArray below meth c H locs (0 + 0) (0 + 0) (zc_Q g below zr_X9_row (some (.int (res.2))) res.1 [va_rf ((some q)), .int (x1), .int (x2), .int (x3)] s) (F0 m 38 ls []) := by
        intro _ H locs ls hf hw hl
        refine zl_aload_n hx hb zd_X9_row_38 rfl (lv_at hl 0 rfl) ?_
        refine lv_bipush (v := (-6)) hx hb zd_X9_row_39 (by decide) ?_
        replace hf := zo_b hf; obtain ⟨r5, er5, hf⟩ := hf
        refine zw_callV (n := 1) (ci := 9) (q := zc_cl[9]) (As := [.int ((-6))]) (rest := []) S hK hw (zt_X9_refuse l g h q (-6) _ er5) zm_349 zm_351 zm_1 zq_X9_refuse zm_68 (by decide +kernel) ⟨Nat.le_of_ble_eq_true rfl, Nat.le_of_ble_eq_true rfl⟩ rfl rfl rfl (zi_X9_refuse er5) hl.1 rfl (by simp [zv_cat, zv_ci, zv_cj]) zd_X9_row_41 ⟨(Nat.le_refl 0), (Nat.le_refl 0)⟩ (fun H locs hw => ?_)
        replace hw : zc_W g r5.1 H locs := hw
        have hres := Option.some.inj hf; subst hres
        exact zw_iret (v := r5.2) (ty := .int) hx hb hr hlk rfl hw zd_X9_row_44 (Nat.le_refl 0) (Nat.le_refl 0)
      refine lv_if_lt (tgt := 38) hx hb zd_X9_row_30 (by decide) (fun c4 => ?_) (fun c4 => ?_)
      · replace hf := zo_t c4 hf
        exact k38h () _ _ _ hf hw (lv_sub hl [1] rfl)
      · replace hf := zo_f c4 hf
        refine lv_iload_n hx hb zd_X9_row_33 rfl (lv_at hl 3 rfl) ?_
        refine lv_iconst (v := 4) hx hb zd_X9_row_34 (by decide) ?_
        refine lv_icmp_lt (tgt := 45) hx hb zd_X9_row_35 (by decide) (fun c6 => ?_) (fun c6 => ?_)
        · replace hf := zo_t c6 hf
          refine lv_iload_n hx hb zd_X9_row_45 rfl (lv_at hl 4 rfl) ?_
          refine lv_sipush (v := 160) hx hb zd_X9_row_46 (by decide) ?_
          refine lv_icmp_le (tgt := 59) hx hb zd_X9_row_49 (by decide) (fun c7 => ?_) (fun c7 => ?_)
          · replace hf := zo_t c7 hf
            refine zl_aload hx hb zd_X9_row_59 (lv_at hl 0 rfl) ?_
            refine lv_iload_n hx hb zd_X9_row_61 rfl (lv_at hl 3 rfl) ?_
            refine lv_iload_n hx hb zd_X9_row_62 rfl (lv_at hl 4 rfl) ?_
            replace hf := zo_b hf; obtain ⟨a8, na8, hf⟩ := hf
            refine W.eq (g2 := F0 m 63 ls [.int (x3), .int (x2), va_rf ((some a8))]) (by rw [na8] <;> rfl) ?_
            replace hf := zo_b hf; obtain ⟨r9, er9, hf⟩ := hf
            refine zw_callV (n := 2) (ci := 5) (q := zc_cl[5]) (As := [.int (x2), .int (x3)]) (rest := []) S hK hw (zt_X5_holdRow l g h a8 x2 x3 _ er9) zm_353 zm_354 zm_355 zq_X5_holdRow zm_78 (by decide +kernel) ⟨Nat.le_of_ble_eq_true rfl, Nat.le_of_ble_eq_true rfl⟩ rfl rfl rfl (zi_X5_holdRow er9) hl.1 rfl (by simp [zv_cat, zv_ci, zv_cj]) zd_X9_row_63 ⟨(Nat.le_refl 0), (Nat.le_refl 0)⟩ (fun H locs hw => ?_)
            replace hw : zc_W g r9 H locs := hw
            refine lv_iconst (v := 1) hx hb zd_X9_row_66 (by decide) ?_
            have hres := Option.some.inj hf; subst hres
            exact zw_iret (v := 1) (ty := .int) hx hb hr hlk rfl hw zd_X9_row_67 (Nat.le_refl 0) (Nat.le_refl 0)
          · replace hf := zo_f c7 hf
            refine zl_aload_n hx hb zd_X9_row_52 rfl (lv_at hl 1 rfl) ?_
            refine lv_bipush (v := (-7)) hx hb zd_X9_row_53 (by decide) ?_
            replace hf := zo_b hf; obtain ⟨r10, er10, hf⟩ := hf
            refine zw_callV (n := 1) (ci := 9) (q := zc_cl[9]) (As := [.int ((-7))]) (rest := []) S hK hw (zt_X9_refuse l g h q (-7) _ er10) zm_349 zm_351 zm_1 zq_X9_refuse zm_68 (by decide +kernel) ⟨Nat.le_of_ble_eq_true rfl, Nat.le_of_ble_eq_true rfl⟩ rfl rfl rfl (zi_X9_refuse er10) hl.1 rfl (by simp [zv_cat, zv_ci, zv_cj]) zd_X9_row_55 ⟨(Nat.le_refl 0), (Nat.le_refl 0)⟩ (fun H locs hw => ?_)
            replace hw : zc_W g r10.1 H locs := hw
            have hres := Option.some.inj hf; subst hres
            exact zw_iret (v := r10.2) (ty := .int) hx hb hr hlk rfl hw zd_X9_row_58 (Nat.le_refl 0) (Nat.le_refl 0)
        · replace hf := zo_f c6 hf
          exact k38h () _ _ _ hf hw (lv_sub hl [1] rfl)
    · replace hf := zo_f c3 hf
      refine zl_aload_n hx hb zd_X9_row_22 rfl (lv_at hl 1 rfl) ?_
      refine lv_bipush (v := (-4)) hx hb zd_X9_row_23 (by decide) ?_
      replace hf := zo_b hf; obtain ⟨r11, er11, hf⟩ := hf
      refine zw_callV (n := 1) (ci := 9) (q := zc_cl[9]) (As := [.int ((-4))]) (rest := []) S hK hw (zt_X9_refuse l g h q (-4) _ er11) zm_349 zm_351 zm_1 zq_X9_refuse zm_68 (by decide +kernel) ⟨Nat.le_of_ble_eq_true rfl, Nat.le_of_ble_eq_true rfl⟩ rfl rfl rfl (zi_X9_refuse er11) hl.1 rfl (by simp [zv_cat, zv_ci, zv_cj]) zd_X9_row_25 ⟨(Nat.le_refl 0), (Nat.le_refl 0)⟩ (fun H locs hw => ?_)
      replace hw : zc_W g r11.1 H locs := hw
      have hres := Option.some.inj hf; subst hres
      exact zw_iret (v := r11.2) (ty := .int) hx hb hr hlk rfl hw zd_X9_row_28 (Nat.le_refl 0) (Nat.le_refl 0)
  · replace hf := zo_t c2 hf
    refine zl_aload_n hx hb zd_X9_row_12 rfl (lv_at hl 1 rfl) ?_
    refine lv_iconst (v := (-1)) hx hb zd_X9_row_13 (by decide) ?_
    replace hf := zo_b hf; obtain ⟨r12, er12, hf⟩ := hf
    refine zw_callV (n := 1) (ci := 9) (q := zc_cl[9]) (As := [.int ((-1))]) (rest := []) S hK hw (zt_X9_refuse l g h q (-1) _ er12) zm_349 zm_351 zm_1 zq_X9_refuse zm_68 (by decide +kernel) ⟨Nat.le_of_ble_eq_true rfl, Nat.le_of_ble_eq_true rfl⟩ rfl rfl rfl (zi_X9_refuse er12) hl.1 rfl (by simp [zv_cat, zv_ci, zv_cj]) zd_X9_row_14 ⟨(Nat.le_refl 0), (Nat.le_refl 0)⟩ (fun H locs hw => ?_)
    replace hw : zc_W g r12.1 H locs := hw
    have hres := Option.some.inj hf; subst hres
    exact zw_iret (v := r12.2) (ty := .int) hx hb hr hlk rfl hw zd_X9_row_17 (Nat.le_refl 0) (Nat.le_refl 0)
