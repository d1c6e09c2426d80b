def zf_X6_threadOf_L4 (h : zc_H) (q : Nat) (y1 : Int32) : Nat → Int32 → Int32 → Option (Int32)
  | 0, _, _ => none
  | n + 1, y2, y3 =>
    (zf_gr h q 6 1).bind fun v1 =>
    v1.bind fun a3 =>
    (zf_Jx4a65c_size_8abf5 h a3).bind fun r4 =>
    if r4 ≤ y3 then
      some y2
    else
    (zf_gr h q 6 1).bind fun v6 =>
    v6.bind fun a8 =>
    (zf_Jx4a65c_get_915e3 h a8 y3).bind fun r9 =>
    if ¬ zf_cc h r9 3 = true then none else
    r9.bind fun a11 =>
    (zf_gi h a11 3 5).bind fun v12 =>
    let k59 := fun (y59_2 : Int32) =>
      zf_X6_threadOf_L4 h q y1 n y59_2 (y3 + 1)
    if v12 = (-1) then
      k59 y2
    else
    let k53 := fun (_ : Unit) =>
      k59 (y2 ||| (1 <<< (y3 &&& 31)))
    if v12 = y1 then
      k53 ()
    else
    if ((y2 >>> (v12 &&& 31)) &&& 1) = 1 then
      k53 ()
    else
    k59 y2
def zf_X6_threadOf (h : zc_H) (q : Nat) (x1 : Int32) : Option (Int32) :=
  if ¬ zf_is h q 6 = true then none else
  (zf_X6_threadOf_L4 h q x1 2000 0 0).bind fun w17 =>
  some w17
abbrev zr_X6_threadOf : Room := { frames := 3, cells := 0, slots := 0, locals := 64 }
theorem zi_X6_threadOf {h : zc_H} {q : Nat} {x1 : Int32} {res : Int32} (hf : zf_X6_threadOf h q x1 = some res) : zf_is h q 6 = true := Decidable.not_not.mp (zo_n hf).1
set_option maxHeartbeats 4000000 in
set_option maxRecDepth 20000 in
theorem zt_X6_threadOf (l : Launch) (g : zc_G) (h : zc_H) (q : Nat) (x1 : Int32) (res : Int32) (hf : zf_X6_threadOf h q x1 = some res) : zc_M l g yX6_threadOf cX6_threadOf 5 (some .int) zr_X6_threadOf h [va_rf ((some q)), .int (x1)] h (some (.int (res))) := by
  refine zc_M.of (by decide) (by simp [lg_sl, zv_cat, zv_ci, zv_cj]) ?_
  intro p e s m below meth c ls S hK hw hr hlk hnm hl
  replace S : CallFix p m c cX6_threadOf 5 s [va_rf ((some q)), .int (x1)].toArray (zc_ws yX6_threadOf cX6_threadOf 5 (some .int)) RX6 := S
  have hx := S.1
  have hb := S.2.1
  replace hl : lv_has ls 5 [(0, va_rf ((some q))), (1, .int (x1))] := by simpa [lv_args, zv_cat, zv_ci, zv_cj] using hl
  generalize s.heap = H at hw ⊢
  obtain ⟨locs, hlocs⟩ : ∃ L : List Loc, L = [] := ⟨_, rfl⟩
  rw [← hlocs] at hw ⊢
  have L4 : ∀ (h : zc_H) (y1 : Int32) (n : Nat) (y2 : Int32) (y3 : Int32) (w : Int32) (H : Heap) (locs : List Loc) (ls : Array Slot), zf_X6_threadOf_L4 h q y1 n y2 y3 = some w → zc_W g h H locs → lv_has ls 5 [(0, va_rf ((some q))), (1, .int (y1)), (2, .int (y2)), (3, .int (y3))] → (∀ (H : Heap) (locs : List Loc) (ls : Array Slot), zc_W g h H locs → lv_has ls 5 [(2, .int (w))] → W p l e zr_X6_threadOf s m [va_rf ((some q)), .int (x1)].toArray below meth c H locs 0 0 (zc_Q g below zr_X6_threadOf (some (.int (res))) h [va_rf ((some q)), .int (x1)] s) (F0 m 65 ls [])) → W p l e zr_X6_threadOf s m [va_rf ((some q)), .int (x1)].toArray below meth c H locs 0 0 (zc_Q g below zr_X6_threadOf (some (.int (res))) h [va_rf ((some q)), .int (x1)] s) (F0 m 4 ls []) := by
    intro h y1 n
    induction n with
    | zero =>
      intro y2 y3 w H locs ls hf
      cases hf
    | succ n ih =>
      intro y2 y3 w H locs ls hf hw hl  kk
      unfold zf_X6_threadOf_L4 at hf
      refine lv_iload_n hx hb zd_X6_threadOf_4 rfl (lv_at hl 3 rfl) ?_
      refine zl_aload_n hx hb zd_X6_threadOf_5 rfl (lv_at hl 0 rfl) ?_
      replace hf := zo_b hf; obtain ⟨v1, ev1, hf⟩ := hf
      obtain ⟨u2, u2e, u2v⟩ := zo_b ev1
      obtain rfl := zv_r_e u2v
      refine zw_get S hK hw zk_6 (k := 1) (by decide) rfl zm_133 (Or.inl rfl) u2e zd_X6_threadOf_6 ?_
      replace hf := zo_b hf; obtain ⟨a3, na3, hf⟩ := hf
      refine W.eq (g2 := F0 m 9 ls [va_rf ((some a3)), .int (y3)]) (by rw [na3] <;> rfl) ?_
      replace hf := zo_b hf; obtain ⟨r4, er4, hf⟩ := hf
      refine zw_callV (n := 0) (ci := 11) (q := zc_cl[11]) (As := []) (rest := [.int (y3)]) S hK hw (zt_Jx4a65c_size_8abf5 l g h a3 _ er4) zm_424 zm_425 zm_426 zq_Jx4a65c_size_8abf5 zm_72 (by decide +kernel) ⟨Nat.le_of_ble_eq_true rfl, Nat.le_of_ble_eq_true rfl⟩ rfl rfl rfl (zi_Jx4a65c_size_8abf5 er4) hl.1 rfl (by simp [zv_cat, zv_ci, zv_cj]) zd_X6_threadOf_9 ⟨(Nat.le_refl 0), (Nat.le_refl 0)⟩ (fun H locs hw => ?_)
      replace hw : zc_W g h H locs := hw
      refine lv_icmp_ge (tgt := 65) hx hb zd_X6_threadOf_12 (by decide) (fun c5 => ?_) (fun c5 => ?_)
      · replace hf := zo_t c5 hf
        have hres := Option.some.inj hf; subst hres
        exact kk _ _ _ hw (lv_sub hl [2] rfl)
      · replace hf := zo_f c5 hf
        refine zl_aload_n hx hb zd_X6_threadOf_15 rfl (lv_at hl 0 rfl) ?_
        replace hf := zo_b hf; obtain ⟨v6, ev6, hf⟩ := hf
        obtain ⟨u7, u7e, u7v⟩ := zo_b ev6
        obtain rfl := zv_r_e u7v
        refine zw_get S hK hw zk_6 (k := 1) (by decide) rfl zm_133 (Or.inl rfl) u7e zd_X6_threadOf_16 ?_
        refine lv_iload_n hx hb zd_X6_threadOf_19 rfl (lv_at hl 3 rfl) ?_
        replace hf := zo_b hf; obtain ⟨a8, na8, hf⟩ := hf
        refine W.eq (g2 := F0 m 20 ls [.int (y3), va_rf ((some a8))]) (by rw [na8] <;> rfl) ?_
        replace hf := zo_b hf; obtain ⟨r9, er9, hf⟩ := hf
        refine zw_callV (n := 1) (ci := 11) (q := zc_cl[11]) (As := [.int (y3)]) (rest := []) S hK hw (zt_Jx4a65c_get_915e3 l g h a8 y3 _ er9) zm_428 zm_429 zm_430 zq_Jx4a65c_get_915e3 zm_72 (by decide +kernel) ⟨Nat.le_of_ble_eq_true rfl, Nat.le_of_ble_eq_true rfl⟩ rfl rfl rfl (zi_Jx4a65c_get_915e3 er9) hl.1 rfl (by simp [zv_cat, zv_ci, zv_cj]) zd_X6_threadOf_20 ⟨(Nat.le_refl 0), (Nat.le_refl 0)⟩ (fun H locs hw => ?_)
        replace hw : zc_W g h H locs := hw
        replace hf := zo_n hf; obtain ⟨z10, hf⟩ := hf
        refine zw_cast (q := zc_cl[3]) S hK hw zm_442 rfl rfl (Decidable.not_not.mp z10) zd_X6_threadOf_23 ?_
        replace hf := zo_b hf; obtain ⟨a11, na11, hf⟩ := hf
        refine W.eq (g2 := F0 m 26 ls [va_rf ((some a11))]) (by rw [na11] <;> rfl) ?_
        replace hf := zo_b hf; obtain ⟨v12, ev12, hf⟩ := hf
        obtain ⟨u13, u13e, u13v⟩ := zo_b ev12
        obtain rfl := zv_i_e u13v
        refine zw_get S hK hw zk_3 (k := 5) (by decide) rfl zm_773 (Or.inl rfl) u13e zd_X6_threadOf_26 ?_
        refine lv_istore (i := 4) (lv' := [(4, .int (v12)), (0, va_rf ((some q))), (1, .int (y1)), (2, .int (y2)), (3, .int (y3))]) hx hb zd_X6_threadOf_29 hl (by decide) rfl (fun ls hl => ?_)
        refine lv_iload hx hb zd_X6_threadOf_31 (lv_at hl 0 rfl) ?_
        refine lv_iconst (v := (-1)) hx hb zd_X6_threadOf_33 (by decide) ?_
        have k59h : ∀ (y59_2 : Int32) (H : Heap) (locs : List Loc) (ls : Array Slot), (
            zf_X6_threadOf_L4 h q y1 n y59_2 (y3 + 1)
            ) = some w → zc_W g h H locs → lv_has ls 5 [(0, va_rf ((some q))), (1, .int (y1)), (2, .int (y59_2)), (3, .int (y3))] → W p l e zr_X6_threadOf s m [va_rf ((some q)), .int (x1)].toArray below meth c H locs ((0 + 0) + 0) ((0 + 0) + 0) (zc_Q g below zr_X6_threadOf (some (.int (res))) h [va_rf ((some q)), .int (x1)] s) (F0 m 59 ls []) := by
          intro y59_2 H locs ls hf hw hl
          refine lv_iinc (i := 3) (v := (y3 + 1)) (lv' := [(3, .int ((y3 + 1))), (0, va_rf ((some q))), (1, .int (y1)), (2, .int (y59_2))]) hx hb zd_X6_threadOf_59 hl (k := 3) rfl (congrArg (_ + ·) (by decide)) (by decide) rfl (fun ls hl => ?_)
          refine lv_goto (tgt := 4) hx hb zd_X6_threadOf_62 (by decide) ?_
          exact ih y59_2 (y3 + 1) _ _ _ _ hf hw (lv_sub hl [1, 2, 3, 0] rfl) kk
        refine lv_icmp_eq (tgt := 59) hx hb zd_X6_threadOf_34 (by decide) (fun c14 => ?_) (fun c14 => ?_)
        · replace hf := zo_t c14 hf
          exact k59h y2 _ _ _ hf hw (lv_sub hl [1, 2, 3, 4] rfl)
        · replace hf := zo_f c14 hf
          refine lv_iload hx hb zd_X6_threadOf_37 (lv_at hl 0 rfl) ?_
          refine lv_iload_n hx hb zd_X6_threadOf_39 rfl (lv_at hl 2 rfl) ?_
          have k53h : ∀ (_ : Unit) (H : Heap) (locs : List Loc) (ls : Array Slot), (
              let k59 := fun (y59_2 : Int32) =>
                zf_X6_threadOf_L4 h q y1 n y59_2 (y3 + 1)
              k59 (y2 ||| (1 <<< (y3 &&& 31)))
              ) = some w → zc_W g h H locs → lv_has ls 5 [(0, va_rf ((some q))), (1, .int (y1)), (2, .int (y2)), (3, .int (y3))] → W p l e zr_X6_threadOf s m [va_rf ((some q)), .int (x1)].toArray below meth c H locs ((0 + 0) + 0) ((0 + 0) + 0) (zc_Q g below zr_X6_threadOf (some (.int (res))) h [va_rf ((some q)), .int (x1)] s) (F0 m 53 ls []) := by
            intro _ H locs ls hf hw hl
            refine lv_iload_n hx hb zd_X6_threadOf_53 rfl (lv_at hl 2 rfl) ?_
            refine lv_iconst (v := 1) hx hb zd_X6_threadOf_54 (by decide) ?_
            refine lv_iload_n hx hb zd_X6_threadOf_55 rfl (lv_at hl 3 rfl) ?_
            refine lv_ishl hx hb zd_X6_threadOf_56 ?_
            refine lv_ior hx hb zd_X6_threadOf_57 ?_
            refine lv_istore_n (i := 2) (lv' := [(2, .int ((y2 ||| (1 <<< (y3 &&& 31))))), (0, va_rf ((some q))), (1, .int (y1)), (3, .int (y3))]) hx hb zd_X6_threadOf_58 rfl hl (by decide) rfl (fun ls hl => ?_)
            exact k59h (y2 ||| (1 <<< (y3 &&& 31))) _ _ _ hf hw (lv_sub hl [1, 2, 0, 3] rfl)
          refine lv_icmp_eq (tgt := 53) hx hb zd_X6_threadOf_40 (by decide) (fun c15 => ?_) (fun c15 => ?_)
          · replace hf := zo_t c15 hf
            exact k53h () _ _ _ hf hw (lv_sub hl [1, 2, 3, 4] rfl)
          · replace hf := zo_f c15 hf
            refine lv_iload_n hx hb zd_X6_threadOf_43 rfl (lv_at hl 3 rfl) ?_
            refine lv_iload hx hb zd_X6_threadOf_44 (lv_at hl 0 rfl) ?_
            refine lv_ishr hx hb zd_X6_threadOf_46 ?_
            refine lv_iconst (v := 1) hx hb zd_X6_threadOf_47 (by decide) ?_
            refine lv_iand hx hb zd_X6_threadOf_48 ?_
            refine lv_iconst (v := 1) hx hb zd_X6_threadOf_49 (by decide) ?_
            refine lv_icmp_ne (tgt := 59) hx hb zd_X6_threadOf_50 (by decide) (fun c16 => ?_) (fun c16 => ?_)
            · replace hf := zo_f c16 hf
              exact k59h y2 _ _ _ hf hw (lv_sub hl [1, 2, 3, 4] rfl)
            · replace hf := zo_t c16 hf
              exact k53h () _ _ _ hf hw (lv_sub hl [1, 2, 3, 4] rfl)
  unfold zf_X6_threadOf at hf
  obtain ⟨-, hf⟩ := zo_n hf
  refine lv_iconst (v := 0) hx hb zd_X6_threadOf_0 (by decide) ?_
  refine lv_istore_n (i := 2) (lv' := [(2, .int (0)), (0, va_rf ((some q))), (1, .int (x1))]) hx hb zd_X6_threadOf_1 rfl hl (by decide) rfl (fun ls hl => ?_)
  refine lv_iconst (v := 0) hx hb zd_X6_threadOf_2 (by decide) ?_
  refine lv_istore_n (i := 3) (lv' := [(3, .int (0)), (2, .int (0)), (0, va_rf ((some q))), (1, .int (x1))]) hx hb zd_X6_threadOf_3 rfl hl (by decide) rfl (fun ls hl => ?_)
  replace hf := zo_b hf; obtain ⟨w17, w17e, hf⟩ := hf
  refine L4 h x1 2000 0 0 _ _ _ _ w17e hw (lv_sub hl [2, 3, 1, 0] rfl) (fun H locs ls hw hl => ?_)
  refine lv_iload_n hx hb zd_X6_threadOf_65 rfl (lv_at hl 0 rfl) ?_
  have hres := Option.some.inj hf; subst hres
  exact zw_iret (v := w17) (ty := .int) hx hb hr hlk rfl hw zd_X6_threadOf_66 (Nat.le_refl 0) (Nat.le_refl 0)
def zf_X6_isOpen (h : zc_H) (q : Nat) (x1 : Int32) : Option (Int32) :=
  if ¬ zf_is h q 6 = true then none else
  (zf_X6_threadOf h q x1).bind fun r1 =>
  (zf_gi h q 6 2).bind fun v2 =>
  if ((r1 ||| (1 <<< (x1 &&& 31))) &&& (v2 ^^^ (-1))) = 0 then
    some 0
  else
  some 1
abbrev zr_X6_isOpen : Room := { frames := 4, cells := 0, slots := 0, locals := 88 }
theorem zi_X6_isOpen {h : zc_H} {q : Nat} {x1 : Int32} {res : Int32} (hf : zf_X6_isOpen h q x1 = some res) : zf_is h q 6 = true := Decidable.not_not.mp (zo_n hf).1
set_option maxHeartbeats 4000000 in
set_option maxRecDepth 20000 in
theorem zt_X6_isOpen (l : Launch) (g : zc_G) (h : zc_H) (q : Nat) (x1 : Int32) (res : Int32) (hf : zf_X6_isOpen h q x1 = some res) : zc_M l g yX6_isOpen cX6_isOpen 2 (some .boolean) zr_X6_isOpen h [va_rf ((some q)), .int (x1)] h (some (.int (res))) := by
  refine zc_M.of (by decide) (by simp [lg_sl, zv_cat, zv_ci, zv_cj]) ?_
  intro p e s m below meth c ls S hK hw hr hlk hnm hl
  replace S : CallFix p m c cX6_isOpen 2 s [va_rf ((some q)), .int (x1)].toArray (zc_ws yX6_isOpen cX6_isOpen 2 (some .boolean)) RX6 := S
  have hx := S.1
  have hb := S.2.1
  replace hl : lv_has ls 2 [(0, va_rf ((some q))), (1, .int (x1))] := by simpa [lv_args, zv_cat, zv_ci, zv_cj] using hl
  generalize s.heap = H at hw ⊢
  obtain ⟨locs, hlocs⟩ : ∃ L : List Loc, L = [] := ⟨_, rfl⟩
  rw [← hlocs] at hw ⊢
  unfold zf_X6_isOpen at hf
  obtain ⟨-, hf⟩ := zo_n hf
  refine zl_aload_n hx hb zd_X6_isOpen_0 rfl (lv_at hl 0 rfl) ?_
  refine lv_iload_n hx hb zd_X6_isOpen_1 rfl (lv_at hl 1 rfl) ?_
  replace hf := zo_b hf; obtain ⟨r1, er1, hf⟩ := hf
  refine zw_callV (n := 1) (ci := 6) (q := zc_cl[6]) (As := [.int (x1)]) (rest := []) S hK hw (zt_X6_threadOf l g h q x1 _ er1) zm_815 zm_802 zm_803 zq_X6_threadOf zm_69 (by decide +kernel) ⟨Nat.le_of_ble_eq_true rfl, Nat.le_of_ble_eq_true rfl⟩ rfl rfl rfl (zi_X6_threadOf er1) hl.1 rfl (by simp [zv_cat, zv_ci, zv_cj]) zd_X6_isOpen_2 ⟨(Nat.le_refl 0), (Nat.le_refl 0)⟩ (fun H locs hw => ?_)
  replace hw : zc_W g h H locs := hw
  refine lv_iconst (v := 1) hx hb zd_X6_isOpen_5 (by decide) ?_
  refine lv_iload_n hx hb zd_X6_isOpen_6 rfl (lv_at hl 1 rfl) ?_
  refine lv_ishl hx hb zd_X6_isOpen_7 ?_
  refine lv_ior hx hb zd_X6_isOpen_8 ?_
  refine zl_aload_n hx hb zd_X6_isOpen_9 rfl (lv_at hl 0 rfl) ?_
  replace hf := zo_b hf; obtain ⟨v2, ev2, hf⟩ := hf
  obtain ⟨u3, u3e, u3v⟩ := zo_b ev2
  obtain rfl := zv_i_e u3v
  refine zw_get S hK hw zk_6 (k := 2) (by decide) rfl zm_136 (Or.inl rfl) u3e zd_X6_isOpen_10 ?_
  refine lv_iconst (v := (-1)) hx hb zd_X6_isOpen_13 (by decide) ?_
  refine lv_ixor hx hb zd_X6_isOpen_14 ?_
  refine lv_iand hx hb zd_X6_isOpen_15 ?_
  refine lv_if_eq (tgt := 23) hx hb zd_X6_isOpen_16 (by decide) (fun c4 => ?_) (fun c4 => ?_)
  · replace hf := zo_t c4 hf
    refine lv_iconst (v := 0) hx hb zd_X6_isOpen_23 (by decide) ?_
    have hres := Option.some.inj hf; subst hres
    exact zw_iret (v := 0) (ty := .boolean) hx hb hr hlk rfl hw zd_X6_isOpen_24 (Nat.le_refl 0) (Nat.le_refl 0)
  · replace hf := zo_f c4 hf
    refine lv_iconst (v := 1) hx hb zd_X6_isOpen_19 (by decide) ?_
    refine lv_goto (tgt := 24) hx hb zd_X6_isOpen_20 (by decide) ?_
    have hres := Option.some.inj hf; subst hres
    exact zw_iret (v := 1) (ty := .boolean) hx hb hr hlk rfl hw zd_X6_isOpen_24 (Nat.le_refl 0) (Nat.le_refl 0)
def zf_X6_openRoots_L4 (h : zc_H) (q : Nat) : Nat → Int32 → Int32 → Option (Int32)
  | 0, _, _ => none
  | n + 1, y1, y2 =>
    (zf_gr h q 6 1).bind fun v1 =>
    v1.bind fun a3 =>
    (zf_Jx4a65c_size_8abf5 h a3).bind fun r4 =>
    if r4 ≤ y2 then
      some y1
    else
    (zf_gr h q 6 1).bind fun v6 =>
    v6.bind fun a8 =>
    (zf_Jx4a65c_get_915e3 h a8 y2).bind fun r9 =>
    if ¬ zf_cc h r9 3 = true then none else
    r9.bind fun a11 =>
    (zf_gi h a11 3 5).bind fun v12 =>
    let k44 := fun (y44_1 : Int32) =>
      zf_X6_openRoots_L4 h q n y44_1 (y2 + 1)
    if v12 = (-1) then
      (zf_X6_isOpen h q y2).bind fun r15 =>
      if r15 = 0 then
        k44 y1
      else
      k44 (y1 + 1)
    else
    k44 y1
def zf_X6_openRoots (h : zc_H) (q : Nat) : Option (Int32) :=
  if ¬ zf_is h q 6 = true then none else
  (zf_X6_openRoots_L4 h q 2000 0 0).bind fun w17 =>
  some w17
abbrev zr_X6_openRoots : Room := { frames := 5, cells := 0, slots := 0, locals := 109 }
theorem zi_X6_openRoots {h : zc_H} {q : Nat} {res : Int32} (hf : zf_X6_openRoots h q = some res) : zf_is h q 6 = true := Decidable.not_not.mp (zo_n hf).1
set_option maxHeartbeats 4000000 in
set_option maxRecDepth 20000 in
theorem zt_X6_openRoots (l : Launch) (g : zc_G) (h : zc_H) (q : Nat) (res : Int32) (hf : zf_X6_openRoots h q = some res) : zc_M l g yX6_openRoots cX6_openRoots 3 (some .int) zr_X6_openRoots h [va_rf ((some q))] h (some (.int (res))) := by
  refine zc_M.of (by decide) (by simp [lg_sl, zv_cat, zv_ci, zv_cj]) ?_
  intro p e s m below meth c ls S hK hw hr hlk hnm hl
  replace S : CallFix p m c cX6_openRoots 3 s [va_rf ((some q))].toArray (zc_ws yX6_openRoots cX6_openRoots 3 (some .int)) RX6 := S
  have hx := S.1
  have hb := S.2.1
  replace hl : lv_has ls 3 [(0, va_rf ((some q)))] := by simpa [lv_args, zv_cat, zv_ci, zv_cj] using hl
  generalize s.heap = H at hw ⊢
  obtain ⟨locs, hlocs⟩ : ∃ L : List Loc, L = [] := ⟨_, rfl⟩
  rw [← hlocs] at hw ⊢
  have L4 : ∀ (h : zc_H) (n : Nat) (y1 : Int32) (y2 : Int32) (w : Int32) (H : Heap) (locs : List Loc) (ls : Array Slot), zf_X6_openRoots_L4 h q n y1 y2 = some w → zc_W g h H locs → lv_has ls 3 [(0, va_rf ((some q))), (1, .int (y1)), (2, .int (y2))] → (∀ (H : Heap) (locs : List Loc) (ls : Array Slot), zc_W g h H locs → lv_has ls 3 [(1, .int (w))] → W p l e zr_X6_openRoots s m [va_rf ((some q))].toArray below meth c H locs 0 0 (zc_Q g below zr_X6_openRoots (some (.int (res))) h [va_rf ((some q))] s) (F0 m 50 ls [])) → W p l e zr_X6_openRoots s m [va_rf ((some q))].toArray below meth c H locs 0 0 (zc_Q g below zr_X6_openRoots (some (.int (res))) h [va_rf ((some q))] s) (F0 m 4 ls []) := by
    intro h n
    induction n with
    | zero =>
      intro y1 y2 w H locs ls hf
      cases hf
    | succ n ih =>
      intro y1 y2 w H locs ls hf hw hl  kk
      unfold zf_X6_openRoots_L4 at hf
      refine lv_iload_n hx hb zd_X6_openRoots_4 rfl (lv_at hl 2 rfl) ?_
      refine zl_aload_n hx hb zd_X6_openRoots_5 rfl (lv_at hl 0 rfl) ?_
      replace hf := zo_b hf; obtain ⟨v1, ev1, hf⟩ := hf
      obtain ⟨u2, u2e, u2v⟩ := zo_b ev1
      obtain rfl := zv_r_e u2v
      refine zw_get S hK hw zk_6 (k := 1) (by decide) rfl zm_133 (Or.inl rfl) u2e zd_X6_openRoots_6 ?_
      replace hf := zo_b hf; obtain ⟨a3, na3, hf⟩ := hf
      refine W.eq (g2 := F0 m 9 ls [va_rf ((some a3)), .int (y2)]) (by rw [na3] <;> rfl) ?_
      replace hf := zo_b hf; obtain ⟨r4, er4, hf⟩ := hf
      refine zw_callV (n := 0) (ci := 11) (q := zc_cl[11]) (As := []) (rest := [.int (y2)]) S hK hw (zt_Jx4a65c_size_8abf5 l g h a3 _ er4) zm_424 zm_425 zm_426 zq_Jx4a65c_size_8abf5 zm_72 (by decide +kernel) ⟨Nat.le_of_ble_eq_true rfl, Nat.le_of_ble_eq_true rfl⟩ rfl rfl rfl (zi_Jx4a65c_size_8abf5 er4) hl.1 rfl (by simp [zv_cat, zv_ci, zv_cj]) zd_X6_openRoots_9 ⟨(Nat.le_refl 0), (Nat.le_refl 0)⟩ (fun H locs hw => ?_)
      replace hw : zc_W g h H locs := hw
      refine lv_icmp_ge (tgt := 50) hx hb zd_X6_openRoots_12 (by decide) (fun c5 => ?_) (fun c5 => ?_)
      · replace hf := zo_t c5 hf
        have hres := Option.some.inj hf; subst hres
        exact kk _ _ _ hw (lv_sub hl [1] rfl)
      · replace hf := zo_f c5 hf
        refine zl_aload_n hx hb zd_X6_openRoots_15 rfl (lv_at hl 0 rfl) ?_
        replace hf := zo_b hf; obtain ⟨v6, ev6, hf⟩ := hf
        obtain ⟨u7, u7e, u7v⟩ := zo_b ev6
        obtain rfl := zv_r_e u7v
        refine zw_get S hK hw zk_6 (k := 1) (by decide) rfl zm_133 (Or.inl rfl) u7e zd_X6_openRoots_16 ?_
        refine lv_iload_n hx hb zd_X6_openRoots_19 rfl (lv_at hl 2 rfl) ?_
        replace hf := zo_b hf; obtain ⟨a8, na8, hf⟩ := hf
        refine W.eq (g2 := F0 m 20 ls [.int (y2), va_rf ((some a8))]) (by rw [na8] <;> rfl) ?_
        replace hf := zo_b hf; obtain ⟨r9, er9, hf⟩ := hf
        refine zw_callV (n := 1) (ci := 11) (q := zc_cl[11]) (As := [.int (y2)]) (rest := []) S hK hw (zt_Jx4a65c_get_915e3 l g h a8 y2 _ er9) zm_428 zm_429 zm_430 zq_Jx4a65c_get_915e3 zm_72 (by decide +kernel) ⟨Nat.le_of_ble_eq_true rfl, Nat.le_of_ble_eq_true rfl⟩ rfl rfl rfl (zi_Jx4a65c_get_915e3 er9) hl.1 rfl (by simp [zv_cat, zv_ci, zv_cj]) zd_X6_openRoots_20 ⟨(Nat.le_refl 0), (Nat.le_refl 0)⟩ (fun H locs hw => ?_)
        replace hw : zc_W g h H locs := hw
        replace hf := zo_n hf; obtain ⟨z10, hf⟩ := hf
        refine zw_cast (q := zc_cl[3]) S hK hw zm_442 rfl rfl (Decidable.not_not.mp z10) zd_X6_openRoots_23 ?_
        replace hf := zo_b hf; obtain ⟨a11, na11, hf⟩ := hf
        refine W.eq (g2 := F0 m 26 ls [va_rf ((some a11))]) (by rw [na11] <;> rfl) ?_
        replace hf := zo_b hf; obtain ⟨v12, ev12, hf⟩ := hf
        obtain ⟨u13, u13e, u13v⟩ := zo_b ev12
        obtain rfl := zv_i_e u13v
        refine zw_get S hK hw zk_3 (k := 5) (by decide) rfl zm_773 (Or.inl rfl) u13e zd_X6_openRoots_26 ?_
        refine lv_iconst (v := (-1)) hx hb zd_X6_openRoots_29 (by decide) ?_
        have k44h : ∀ (y44_1 : Int32) (H : Heap) (locs : List Loc) (ls : Array Slot), (
            zf_X6_openRoots_L4 h q n y44_1 (y2 + 1)
            ) = some w → zc_W g h H locs → lv_has ls 3 [(0, va_rf ((some q))), (1, .int (y44_1)), (2, .int (y2))] → W p l e zr_X6_openRoots s m [va_rf ((some q))].toArray below meth c H locs ((0 + 0) + 0) ((0 + 0) + 0) (zc_Q g below zr_X6_openRoots (some (.int (res))) h [va_rf ((some q))] s) (F0 m 44 ls []) := by
          intro y44_1 H locs ls hf hw hl
          refine lv_iinc (i := 2) (v := (y2 + 1)) (lv' := [(2, .int ((y2 + 1))), (0, va_rf ((some q))), (1, .int (y44_1))]) hx hb zd_X6_openRoots_44 hl (k := 2) rfl (congrArg (_ + ·) (by decide)) (by decide) rfl (fun ls hl => ?_)
          refine lv_goto (tgt := 4) hx hb zd_X6_openRoots_47 (by decide) ?_
          exact ih y44_1 (y2 + 1) _ _ _ _ hf hw (lv_sub hl [1, 2, 0] rfl) kk
        refine lv_icmp_ne (tgt := 44) hx hb zd_X6_openRoots_30 (by decide) (fun c14 => ?_) (fun c14 => ?_)
        · replace hf := zo_f c14 hf
          exact k44h y1 _ _ _ hf hw (lv_sub hl [0, 1, 2] rfl)
        · replace hf := zo_t c14 hf
          refine zl_aload_n hx hb zd_X6_openRoots_33 rfl (lv_at hl 0 rfl) ?_
          refine lv_iload_n hx hb zd_X6_openRoots_34 rfl (lv_at hl 2 rfl) ?_
          replace hf := zo_b hf; obtain ⟨r15, er15, hf⟩ := hf
          refine zw_callV (n := 1) (ci := 6) (q := zc_cl[6]) (As := [.int (y2)]) (rest := []) S hK hw (zt_X6_isOpen l g h q y2 _ er15) zm_1075 zm_812 zm_813 zq_X6_isOpen zm_69 (by decide +kernel) ⟨Nat.le_of_ble_eq_true rfl, Nat.le_of_ble_eq_true rfl⟩ rfl rfl rfl (zi_X6_isOpen er15) hl.1 rfl (by simp [zv_cat, zv_ci, zv_cj]) zd_X6_openRoots_35 ⟨(Nat.le_refl 0), (Nat.le_refl 0)⟩ (fun H locs hw => ?_)
          replace hw : zc_W g h H locs := hw
          refine lv_if_eq (tgt := 44) hx hb zd_X6_openRoots_38 (by decide) (fun c16 => ?_) (fun c16 => ?_)
          · replace hf := zo_t c16 hf
            exact k44h y1 _ _ _ hf hw (lv_sub hl [0, 1, 2] rfl)
          · replace hf := zo_f c16 hf
            refine lv_iinc (i := 1) (v := (y1 + 1)) (lv' := [(1, .int ((y1 + 1))), (0, va_rf ((some q))), (2, .int (y2))]) hx hb zd_X6_openRoots_41 hl (k := 1) rfl (congrArg (_ + ·) (by decide)) (by decide) rfl (fun ls hl => ?_)
            exact k44h (y1 + 1) _ _ _ hf hw (lv_sub hl [1, 0, 2] rfl)
  unfold zf_X6_openRoots at hf
  obtain ⟨-, hf⟩ := zo_n hf
  refine lv_iconst (v := 0) hx hb zd_X6_openRoots_0 (by decide) ?_
  refine lv_istore_n (i := 1) (lv' := [(1, .int (0)), (0, va_rf ((some q)))]) hx hb zd_X6_openRoots_1 rfl hl (by decide) rfl (fun ls hl => ?_)
  refine lv_iconst (v := 0) hx hb zd_X6_openRoots_2 (by decide) ?_
  refine lv_istore_n (i := 2) (lv' := [(2, .int (0)), (1, .int (0)), (0, va_rf ((some q)))]) hx hb zd_X6_openRoots_3 rfl hl (by decide) rfl (fun ls hl => ?_)
  replace hf := zo_b hf; obtain ⟨w17, w17e, hf⟩ := hf
  refine L4 h  2000 0 0 _ _ _ _ w17e hw (lv_sub hl [2, 1, 0] rfl) (fun H locs ls hw hl => ?_)
  refine lv_iload_n hx hb zd_X6_openRoots_50 rfl (lv_at hl 0 rfl) ?_
  have hres := Option.some.inj hf; subst hres
  exact zw_iret (v := w17) (ty := .int) hx hb hr hlk rfl hw zd_X6_openRoots_51 (Nat.le_refl 0) (Nat.le_refl 0)
def zf_X7_init (h : zc_H) (q : Nat) (x1 : Option Nat) (x2 : Option Nat) : Option (zc_H) :=
  if ¬ zf_is h q 7 = true then none else
  (some (zf_new h (.inl (0, 16, .inl (fun _ => 0))))).bind fun h1 =>
  (zf_p h1 q 7 2 (va_rf ((some h.2.1)))).bind fun h2 =>
  (zf_p h2 q 7 0 (va_rf (x1))).bind fun h3 =>
  (zf_p h3 q 7 1 (va_rf (x2))).bind fun h4 =>
  some h4
abbrev zr_X7_init : Room := { frames := 1, cells := 1, slots := 16, locals := 40 }
theorem zi_X7_init {h : zc_H} {q : Nat} {x1 : Option Nat} {x2 : Option Nat} {res : zc_H} (hf : zf_X7_init h q x1 x2 = some res) : zf_is h q 7 = true := Decidable.not_not.mp (zo_n hf).1
set_option maxHeartbeats 4000000 in
set_option maxRecDepth 20000 in
theorem zt_X7_init (l : Launch) (g : zc_G) (h : zc_H) (q : Nat) (x1 : Option Nat) (x2 : Option Nat) (res : zc_H) (hf : zf_X7_init h q x1 x2 = some res) : zc_M l g yX7_init cX7_init 3 none zr_X7_init h [va_rf ((some q)), va_rf (x1), va_rf (x2)] res none := by
  refine zc_M.of (by decide) (by simp [lg_sl, zv_cat, zv_ci, zv_cj]) ?_
  intro p e s m below meth c ls S hK hw hr hlk hnm hl
  replace S : CallFix p m c cX7_init 3 s [va_rf ((some q)), va_rf (x1), va_rf (x2)].toArray (zc_ws yX7_init cX7_init 3 none) RX7 := S
  have hx := S.1
  have hb := S.2.1
  replace hl : lv_has ls 3 [(0, va_rf ((some q))), (1, va_rf (x1)), (2, va_rf (x2))] := by simpa [lv_args, zv_cat, zv_ci, zv_cj] using hl
  generalize s.heap = H at hw ⊢
  obtain ⟨locs, hlocs⟩ : ∃ L : List Loc, L = [] := ⟨_, rfl⟩
  rw [← hlocs] at hw ⊢
  unfold zf_X7_init at hf
  obtain ⟨-, hf⟩ := zo_n hf
  refine zl_aload_n hx hb zd_X7_init_0 rfl (lv_at hl 0 rfl) ?_
  refine W.objInit hx hb S.2.2.2.1 (S.2.2.2.2 _ (List.mem_cons_of_mem _ zm_247)) (S.2.2.2.2 _ (List.mem_cons_of_mem _ zm_95)) (S.2.2.2.2 _ (List.mem_cons_of_mem _ zm_96)) rfl (by rw [S.2.2.1]; exact hl.1) rfl zd_X7_init_1 (Nat.le_of_ble_eq_true rfl) (by simp [F0, JFrame.monitorRoom, zv_cat, zv_ci, zv_cj, zr_X7_init]) ?_
  refine W.eq (g2 := F0 m 4 ls []) rfl ?_
  refine zl_aload_n hx hb zd_X7_init_4 rfl (lv_at hl 0 rfl) ?_
  refine lv_bipush (v := 16) hx hb zd_X7_init_5 (by decide) ?_
  replace hf := zo_b hf; obtain ⟨h1, eh1, hf⟩ := hf
  refine zw_newa (atype := .int) (t := 0) (a0 := (16, .inl (fun _ => 0))) (ty := .int) (N := 16) (K := 16) S hK hw zm_175 rfl rfl (Nat.le_of_ble_eq_true rfl) (fun h => h) (fun _ => rfl) (by decide) (by decide) (Nat.le_refl _) (by decide) (by show _ ≤ (1 : Nat); omega) (by show _ ≤ (16 : Nat); omega) zd_X7_init_7 (fun H hw => ?_)
  replace hw : zc_W g h1 H locs := (Option.some.inj eh1) ▸ hw
  replace hf := zo_b hf; obtain ⟨h2, eh2, hf⟩ := hf
  refine zw_putF S hK hw zk_7 (k := 2) (by decide) rfl zm_250 hnm eh2 (ty := (.array .int)) (by decide +kernel) (zv_rnA _ _) (zv_rfA _ _) zd_X7_init_9 (fun H locs hw => ?_)
  refine zl_aload_n hx hb zd_X7_init_12 rfl (lv_at hl 0 rfl) ?_
  refine zl_aload_n hx hb zd_X7_init_13 rfl (lv_at hl 1 rfl) ?_
  replace hf := zo_b hf; obtain ⟨h3, eh3, hf⟩ := hf
  refine zw_putF S hK hw zk_7 (k := 0) (by decide) rfl zm_248 hnm eh3 (ty := (.object "LineRemarks$State")) (by decide +kernel) (zv_rnO _ _) (zv_rfO _ _) zd_X7_init_14 (fun H locs hw => ?_)
  refine zl_aload_n hx hb zd_X7_init_17 rfl (lv_at hl 0 rfl) ?_
  refine zl_aload_n hx hb zd_X7_init_18 rfl (lv_at hl 2 rfl) ?_
  replace hf := zo_b hf; obtain ⟨h4, eh4, hf⟩ := hf
  refine zw_putF S hK hw zk_7 (k := 1) (by decide) rfl zm_249 hnm eh4 (ty := (.object "LineRemarks$Walk")) (by decide +kernel) (zv_rnO _ _) (zv_rfO _ _) zd_X7_init_19 (fun H locs hw => ?_)
  have hres := Option.some.inj hf; subst hres
  exact zw_vret hx hb hr hlk hw zd_X7_init_22 (by show _ ≤ (1 : Nat); omega) (by show _ ≤ (16 : Nat); omega)
def zf_X8_layWay_L9 (q : Nat) (y1 : Option Nat) : Nat → zc_H → Option Nat → Option (zc_H × ((Unit) ⊕ (Unit)))
  | 0, _, _ => none
  | n + 1, h, y3 =>
    if y3 = none then
      some (h, (.inl ()))
    else
    (zf_gr h q 8 1).bind fun v6 =>
    v6.bind fun a8 =>
    (zf_Jx4a65c_add_9ea2d h a8 y3).bind fun r9 =>
    if y3 = y1 then
      some (r9.1, (.inr ()))
    else
    y3.bind fun a11 =>
    (zf_gr r9.1 a11 4 1).bind fun v12 =>
    zf_X8_layWay_L9 q y1 n r9.1 v12
def zf_X8_layWay (h : zc_H) (q : Nat) (x1 : Option Nat) (x2 : Option Nat) : Option (zc_H × Int32) :=
  if ¬ zf_is h q 8 = true then none else
  (zf_gr h q 8 1).bind fun v1 =>
  v1.bind fun a3 =>
  (zf_Jx4a65c_clear_da8c8 h a3).bind fun r4 =>
  (zf_X8_layWay_L9 q x1 17 r4 x2).bind fun w14 =>
  Sum.elim (fun t17 =>
    some (w14.1, 0)
    ) (fun t18 =>
    some (w14.1, 1)
    ) w14.2
abbrev zr_X8_layWay : Room := { frames := 8, cells := 17, slots := 680, locals := 228 }
theorem zi_X8_layWay {h : zc_H} {q : Nat} {x1 : Option Nat} {x2 : Option Nat} {res : zc_H × Int32} (hf : zf_X8_layWay h q x1 x2 = some res) : zf_is h q 8 = true := Decidable.not_not.mp (zo_n hf).1
set_option maxHeartbeats 4000000 in
set_option maxRecDepth 20000 in
theorem zt_X8_layWay (l : Launch) (g : zc_G) (h : zc_H) (q : Nat) (x1 : Option Nat) (x2 : Option Nat) (res : zc_H × Int32) (hf : zf_X8_layWay h q x1 x2 = some res) : zc_M l g yX8_layWay cX8_layWay 4 (some .boolean) zr_X8_layWay h [va_rf ((some q)), va_rf (x1), va_rf (x2)] res.1 (some (.int (res.2))) := by
  refine zc_M.of (by decide) (by simp [lg_sl, zv_cat, zv_ci, zv_cj]) ?_
  intro p e s m below meth c ls S hK hw hr hlk hnm hl
  replace S : CallFix p m c cX8_layWay 4 s [va_rf ((some q)), va_rf (x1), va_rf (x2)].toArray (zc_ws yX8_layWay cX8_layWay 4 (some .boolean)) RX8 := S
  have hx := S.1
  have hb := S.2.1
  replace hl : lv_has ls 4 [(0, va_rf ((some q))), (1, va_rf (x1)), (2, va_rf (x2))] := by simpa [lv_args, zv_cat, zv_ci, zv_cj] using hl
  generalize s.heap = H at hw ⊢
  obtain ⟨locs, hlocs⟩ : ∃ L : List Loc, L = [] := ⟨_, rfl⟩
  rw [← hlocs] at hw ⊢
  have L9 : ∀ (y1 : Option Nat) (n : Nat) (h : zc_H) (y3 : Option Nat) (w : zc_H × ((Unit) ⊕ (Unit))) (H : Heap) (locs : List Loc) (ls : Array Slot) (cl sl : Nat), cl + n * 1 ≤ 17 → sl + n * 40 ≤ 680 → zf_X8_layWay_L9 q y1 n h y3 = some w → zc_W g h H locs → lv_has ls 4 [(0, va_rf ((some q))), (1, va_rf (y1)), (3, va_rf (y3))] → (∀ (t : Unit) (H : Heap) (locs : List Loc) (ls : Array Slot) (cl1 sl1 : Nat), cl1 ≤ cl + n * 1 → sl1 ≤ sl + n * 40 → w.2 = (.inl t) → zc_W g w.1 H locs → lv_has ls 4 [] → W p l e zr_X8_layWay s m [va_rf ((some q)), va_rf (x1), va_rf (x2)].toArray below meth c H locs cl1 sl1 (zc_Q g below zr_X8_layWay (some (.int (res.2))) res.1 [va_rf ((some q)), va_rf (x1), va_rf (x2)] s) (F0 m 37 ls [])) → (∀ (t : Unit) (H : Heap) (locs : List Loc) (ls : Array Slot) (cl1 sl1 : Nat), cl1 ≤ cl + n * 1 → sl1 ≤ sl + n * 40 → w.2 = (.inr t) → zc_W g w.1 H locs → lv_has ls 4 [] → W p l e zr_X8_layWay s m [va_rf ((some q)), va_rf (x1), va_rf (x2)].toArray below meth c H locs cl1 sl1 (zc_Q g below zr_X8_layWay (some (.int (res.2))) res.1 [va_rf ((some q)), va_rf (x1), va_rf (x2)] s) (F0 m 27 ls [])) → W p l e zr_X8_layWay s m [va_rf ((some q)), va_rf (x1), va_rf (x2)].toArray below meth c H locs cl sl (zc_Q g below zr_X8_layWay (some (.int (res.2))) res.1 [va_rf ((some q)), va_rf (x1), va_rf (x2)] s) (F0 m 9 ls []) := by
    intro y1 n
    induction n with
    | zero =>
      intro h y3 w H locs ls cl sl hcl hsl hf
      cases hf
    | succ n ih =>
      intro h y3 w H locs ls cl sl hcl hsl hf hw hl  kk1 kk2
      unfold zf_X8_layWay_L9 at hf
      refine zl_aload_n hx hb zd_X8_layWay_9 rfl (lv_at hl 2 rfl) ?_
      refine zl_ifnull (tgt := 37) hx hb zd_X8_layWay_10 (by decide) (fun c5 => ?_) (fun c5 => ?_)
      · replace hf := zo_t c5 hf
        have hres := Option.some.inj hf; subst hres
        exact kk1 _ _ _ _ _ _ (by omega) (by omega) rfl hw (lv_sub hl [] rfl)
      · replace hf := zo_f c5 hf
        refine zl_aload_n hx hb zd_X8_layWay_13 rfl (lv_at hl 0 rfl) ?_
        replace hf := zo_b hf; obtain ⟨v6, ev6, hf⟩ := hf
        obtain ⟨u7, u7e, u7v⟩ := zo_b ev6
        obtain rfl := zv_r_e u7v
        refine zw_get S hK hw zk_8 (k := 1) (by decide) rfl zm_211 (Or.inl rfl) u7e zd_X8_layWay_14 ?_
        refine zl_aload_n hx hb zd_X8_layWay_17 rfl (lv_at hl 2 rfl) ?_
        replace hf := zo_b hf; obtain ⟨a8, na8, hf⟩ := hf
        refine W.eq (g2 := F0 m 18 ls [va_rf (y3), va_rf ((some a8))]) (by rw [na8] <;> rfl) ?_
        replace hf := zo_b hf; obtain ⟨r9, er9, hf⟩ := hf
        refine zw_callV (n := 1) (ci := 11) (q := zc_cl[11]) (As := [va_rf (y3)]) (rest := []) S hK hw (zt_Jx4a65c_add_9ea2d l g h a8 y3 _ er9) zm_722 zm_550 zm_551 zq_Jx4a65c_add_9ea2d zm_72 (by decide +kernel) ⟨Nat.le_of_ble_eq_true rfl, Nat.le_of_ble_eq_true rfl⟩ rfl rfl rfl (zi_Jx4a65c_add_9ea2d er9) hl.1 rfl (by simp [zv_cat, zv_ci, zv_cj]) zd_X8_layWay_18 ⟨(by show cl + (1 : Nat) ≤ (17 : Nat); omega), (by show sl + (40 : Nat) ≤ (680 : Nat); omega)⟩ (fun H locs hw => ?_)
        replace hw : zc_W g r9.1 H locs := hw
        refine W.widen (k := (cl + 1)) (n := (sl + 40)) (Nat.le_refl _) (Nat.le_refl _) ?_
        refine lv_pop hx hb zd_X8_layWay_21 rfl ?_
        refine zl_aload_n hx hb zd_X8_layWay_22 rfl (lv_at hl 2 rfl) ?_
        refine zl_aload_n hx hb zd_X8_layWay_23 rfl (lv_at hl 1 rfl) ?_
        refine lv_acmp_ne (tgt := 29) hx hb zd_X8_layWay_24 (by decide) (fun c10 => ?_) (fun c10 => ?_)
        · replace hf := zo_f c10 hf
          refine zl_aload_n hx hb zd_X8_layWay_29 rfl (lv_at hl 2 rfl) ?_
          replace hf := zo_b hf; obtain ⟨a11, na11, hf⟩ := hf
          refine W.eq (g2 := F0 m 30 ls [va_rf ((some a11))]) (by rw [na11] <;> rfl) ?_
          replace hf := zo_b hf; obtain ⟨v12, ev12, hf⟩ := hf
          obtain ⟨u13, u13e, u13v⟩ := zo_b ev12
          obtain rfl := zv_r_e u13v
          refine zw_get S hK hw zk_4 (k := 1) (by decide) rfl zm_533 (Or.inl rfl) u13e zd_X8_layWay_30 ?_
          refine zl_astore_n (i := 3) (lv' := [(3, va_rf (v12)), (0, va_rf ((some q))), (1, va_rf (y1))]) hx hb zd_X8_layWay_33 rfl hl (by decide) rfl (fun ls hl => ?_)
          refine lv_goto (tgt := 9) hx hb zd_X8_layWay_34 (by decide) ?_
          exact ih r9.1 v12 _ _ _ _ _ _ (by omega) (by omega) hf hw (lv_sub hl [1, 2, 0] rfl) (fun t H locs ls cl1 sl1 h1 h2 => kk1 t H locs ls cl1 sl1 (by omega) (by omega)) (fun t H locs ls cl1 sl1 h1 h2 => kk2 t H locs ls cl1 sl1 (by omega) (by omega))
        · replace hf := zo_t c10 hf
          have hres := Option.some.inj hf; subst hres
          exact kk2 _ _ _ _ _ _ (by omega) (by omega) rfl hw (lv_sub hl [] rfl)
  unfold zf_X8_layWay at hf
  obtain ⟨-, hf⟩ := zo_n hf
  refine zl_aload_n hx hb zd_X8_layWay_0 rfl (lv_at hl 0 rfl) ?_
  replace hf := zo_b hf; obtain ⟨v1, ev1, hf⟩ := hf
  obtain ⟨u2, u2e, u2v⟩ := zo_b ev1
  obtain rfl := zv_r_e u2v
  refine zw_get S hK hw zk_8 (k := 1) (by decide) rfl zm_211 (Or.inl rfl) u2e zd_X8_layWay_1 ?_
  replace hf := zo_b hf; obtain ⟨a3, na3, hf⟩ := hf
  refine W.eq (g2 := F0 m 4 ls [va_rf ((some a3))]) (by rw [na3] <;> rfl) ?_
  replace hf := zo_b hf; obtain ⟨r4, er4, hf⟩ := hf
  refine zw_callV (n := 0) (ci := 11) (q := zc_cl[11]) (As := []) (rest := []) S hK hw (zt_Jx4a65c_clear_da8c8 l g h a3 _ er4) zm_718 zm_719 zm_720 zq_Jx4a65c_clear_da8c8 zm_72 (by decide +kernel) ⟨Nat.le_of_ble_eq_true rfl, Nat.le_of_ble_eq_true rfl⟩ rfl rfl rfl (zi_Jx4a65c_clear_da8c8 er4) hl.1 rfl (by simp [zv_cat, zv_ci, zv_cj]) zd_X8_layWay_4 ⟨(by show 0 + (0 : Nat) ≤ (17 : Nat); omega), (by show 0 + (0 : Nat) ≤ (680 : Nat); omega)⟩ (fun H locs hw => ?_)
  replace hw : zc_W g r4 H locs := hw
  refine W.widen (k := (0 + 0)) (n := (0 + 0)) (Nat.le_refl _) (Nat.le_refl _) ?_
  refine zl_aload_n hx hb zd_X8_layWay_7 rfl (lv_at hl 2 rfl) ?_
  refine zl_astore_n (i := 3) (lv' := [(3, va_rf (x2)), (0, va_rf ((some q))), (1, va_rf (x1)), (2, va_rf (x2))]) hx hb zd_X8_layWay_8 rfl hl (by decide) (by simp [List.filter, zv_cat, zv_ci, zv_cj]) (fun ls hl => ?_)
  replace hf := zo_b hf; obtain ⟨w14, w14e, hf⟩ := hf
  refine L9 x1 17 r4 x2 _ _ _ _ _ _ (by omega) (by omega) w14e hw (lv_sub hl [1, 2, 0] rfl) ?_ ?_
  · intro t17 H locs ls cl15 sl16 hcl15 hsl16 exw14 hw hl
    rw [exw14] at hf
    simp only [Sum.elim_inl, Sum.elim_inr] at hf
    refine lv_iconst (v := 0) hx hb zd_X8_layWay_37 (by decide) ?_
    have hres := Option.some.inj hf; subst hres
    exact zw_iret (v := 0) (ty := .boolean) hx hb hr hlk rfl hw zd_X8_layWay_38 (by show _ ≤ (17 : Nat); omega) (by show _ ≤ (680 : Nat); omega)
  · intro t18 H locs ls cl15 sl16 hcl15 hsl16 exw14 hw hl
    rw [exw14] at hf
    simp only [Sum.elim_inl, Sum.elim_inr] at hf
    refine lv_iconst (v := 1) hx hb zd_X8_layWay_27 (by decide) ?_
    have hres := Option.some.inj hf; subst hres
    exact zw_iret (v := 1) (ty := .boolean) hx hb hr hlk rfl hw zd_X8_layWay_28 (by show _ ≤ (17 : Nat); omega) (by show _ ≤ (680 : Nat); omega)
def zf_X8_begin (h : zc_H) (q : Nat) (x1 : Option Nat) : Option (zc_H) :=
  if ¬ zf_is h q 8 = true then none else
  x1.bind fun a1 =>
  (zf_gi h a1 3 4).bind fun v2 =>
  (zf_p h q 8 2 (.int (v2))).bind fun h4 =>
  (zf_p h4 q 8 3 (.int (0))).bind fun h5 =>
  some h5
abbrev zr_X8_begin : Room := { frames := 0, cells := 0, slots := 0, locals := 0 }
theorem zi_X8_begin {h : zc_H} {q : Nat} {x1 : Option Nat} {res : zc_H} (hf : zf_X8_begin h q x1 = some res) : zf_is h q 8 = true := Decidable.not_not.mp (zo_n hf).1
set_option maxHeartbeats 4000000 in
set_option maxRecDepth 20000 in
theorem zt_X8_begin (l : Launch) (g : zc_G) (h : zc_H) (q : Nat) (x1 : Option Nat) (res : zc_H) (hf : zf_X8_begin h q x1 = some res) : zc_M l g yX8_begin cX8_begin 2 none zr_X8_begin h [va_rf ((some q)), va_rf (x1)] res none := by
  refine zc_M.of (by decide) (by simp [lg_sl, zv_cat, zv_ci, zv_cj]) ?_
  intro p e s m below meth c ls S hK hw hr hlk hnm hl
  replace S : CallFix p m c cX8_begin 2 s [va_rf ((some q)), va_rf (x1)].toArray (zc_ws yX8_begin cX8_begin 2 none) RX8 := S
  have hx := S.1
  have hb := S.2.1
  replace hl : lv_has ls 2 [(0, va_rf ((some q))), (1, va_rf (x1))] := by simpa [lv_args, zv_cat, zv_ci, zv_cj] using hl
  generalize s.heap = H at hw ⊢
  obtain ⟨locs, hlocs⟩ : ∃ L : List Loc, L = [] := ⟨_, rfl⟩
  rw [← hlocs] at hw ⊢
  unfold zf_X8_begin at hf
  obtain ⟨-, hf⟩ := zo_n hf
  refine zl_aload_n hx hb zd_X8_begin_0 rfl (lv_at hl 0 rfl) ?_
  refine zl_aload_n hx hb zd_X8_begin_1 rfl (lv_at hl 1 rfl) ?_
  replace hf := zo_b hf; obtain ⟨a1, na1, hf⟩ := hf
  refine W.eq (g2 := F0 m 2 ls [va_rf ((some a1)), va_rf ((some q))]) (by rw [na1] <;> rfl) ?_
  replace hf := zo_b hf; obtain ⟨v2, ev2, hf⟩ := hf
  obtain ⟨u3, u3e, u3v⟩ := zo_b ev2
  obtain rfl := zv_i_e u3v
  refine zw_get S hK hw zk_3 (k := 4) (by decide) rfl zm_770 (Or.inl rfl) u3e zd_X8_begin_2 ?_
  replace hf := zo_b hf; obtain ⟨h4, eh4, hf⟩ := hf
  refine zw_put S hK hw zk_8 (k := 2) (by decide) rfl zm_212 (Or.inl rfl) eh4 (ty := .int) (by decide +kernel) rfl rfl zd_X8_begin_5 (fun H locs hw => ?_)
  refine zl_aload_n hx hb zd_X8_begin_8 rfl (lv_at hl 0 rfl) ?_
  refine lv_iconst (v := 0) hx hb zd_X8_begin_9 (by decide) ?_
  replace hf := zo_b hf; obtain ⟨h5, eh5, hf⟩ := hf
  refine zw_put S hK hw zk_8 (k := 3) (by decide) rfl zm_215 (Or.inl rfl) eh5 (ty := .int) (by decide +kernel) rfl rfl zd_X8_begin_10 (fun H locs hw => ?_)
  have hres := Option.some.inj hf; subst hres
  exact zw_vret hx hb hr hlk hw zd_X8_begin_13 (Nat.le_refl 0) (Nat.le_refl 0)
def zf_X8_scoreAt_L5 (h : zc_H) (q : Nat) (y1 : Option Nat) (y2 : Int32) : Nat → Int32 → Int32 → Option (Int32)
  | 0, _, _ => none
  | n + 1, y3, y4 =>
    (zf_gi h q 8 5).bind fun v1 =>
    if (v1 + 2) ≤ y4 then
      some y3
    else
    (zf_gr h q 8 4).bind fun v4 =>
    v4.bind fun a6 =>
    (zf_len h a6).bind fun v7 =>
    if v7 ≤ y4 then
      some y3
    else
    (zf_gr h q 8 4).bind fun v9 =>
    v9.bind fun a11 =>
    (zf_aj h a11 y4).bind fun v12 =>
    y1.bind fun a13 =>
    (zf_X4_lineAt h a13 ((y2 - 1) + y4)).bind fun r14 =>
    let k71 := fun (y71_3 : Int32) =>
      zf_X8_scoreAt_L5 h q y1 y2 n y71_3 (y4 + 1)
    if (lg_cmp v12 r14) = 0 then
      let k69 := fun (s69_0 : Int32) (s69_1 : Int32) =>
        k71 (s69_1 + s69_0)
      let k64 := fun (s64_0 : Int32) =>
        k69 2 s64_0
      if y4 = 0 then
        k64 y3
      else
      (zf_gi h q 8 5).bind fun v17 =>
      if y4 = (v17 + 1) then
        k64 y3
      else
      k69 3 y3
    else
    k71 y3
def zf_X8_scoreAt (h : zc_H) (q : Nat) (x1 : Option Nat) (x2 : Int32) : Option (Int32) :=
  if ¬ zf_is h q 8 = true then none else
  (zf_X8_scoreAt_L5 h q x1 x2 2000 0 0).bind fun w20 =>
  some w20
abbrev zr_X8_scoreAt : Room := { frames := 1, cells := 0, slots := 0, locals := 21 }
theorem zi_X8_scoreAt {h : zc_H} {q : Nat} {x1 : Option Nat} {x2 : Int32} {res : Int32} (hf : zf_X8_scoreAt h q x1 x2 = some res) : zf_is h q 8 = true := Decidable.not_not.mp (zo_n hf).1
set_option maxHeartbeats 4000000 in
set_option maxRecDepth 20000 in
theorem zt_X8_scoreAt (l : Launch) (g : zc_G) (h : zc_H) (q : Nat) (x1 : Option Nat) (x2 : Int32) (res : Int32) (hf : zf_X8_scoreAt h q x1 x2 = some res) : zc_M l g yX8_scoreAt cX8_scoreAt 5 (some .int) zr_X8_scoreAt h [va_rf ((some q)), va_rf (x1), .int (x2)] h (some (.int (res))) := by
  refine zc_M.of (by decide) (by simp [lg_sl, zv_cat, zv_ci, zv_cj]) ?_
  intro p e s m below meth c ls S hK hw hr hlk hnm hl
  replace S : CallFix p m c cX8_scoreAt 5 s [va_rf ((some q)), va_rf (x1), .int (x2)].toArray (zc_ws yX8_scoreAt cX8_scoreAt 5 (some .int)) RX8 := S
  have hx := S.1
  have hb := S.2.1
  replace hl : lv_has ls 5 [(0, va_rf ((some q))), (1, va_rf (x1)), (2, .int (x2))] := by simpa [lv_args, zv_cat, zv_ci, zv_cj] using hl
  generalize s.heap = H at hw ⊢
  obtain ⟨locs, hlocs⟩ : ∃ L : List Loc, L = [] := ⟨_, rfl⟩
  rw [← hlocs] at hw ⊢
  have L5 : ∀ (h : zc_H) (y1 : Option Nat) (y2 : Int32) (n : Nat) (y3 : Int32) (y4 : Int32) (w : Int32) (H : Heap) (locs : List Loc) (ls : Array Slot), zf_X8_scoreAt_L5 h q y1 y2 n y3 y4 = some w → zc_W g h H locs → lv_has ls 5 [(0, va_rf ((some q))), (1, va_rf (y1)), (2, .int (y2)), (3, .int (y3)), (4, .int (y4))] → (∀ (H : Heap) (locs : List Loc) (ls : Array Slot), zc_W g h H locs → lv_has ls 5 [(3, .int (w))] → W p l e zr_X8_scoreAt s m [va_rf ((some q)), va_rf (x1), .int (x2)].toArray below meth c H locs 0 0 (zc_Q g below zr_X8_scoreAt (some (.int (res))) h [va_rf ((some q)), va_rf (x1), .int (x2)] s) (F0 m 77 ls [])) → W p l e zr_X8_scoreAt s m [va_rf ((some q)), va_rf (x1), .int (x2)].toArray below meth c H locs 0 0 (zc_Q g below zr_X8_scoreAt (some (.int (res))) h [va_rf ((some q)), va_rf (x1), .int (x2)] s) (F0 m 5 ls []) := by
    intro h y1 y2 n
    induction n with
    | zero =>
      intro y3 y4 w H locs ls hf
      cases hf
    | succ n ih =>
      intro y3 y4 w H locs ls hf hw hl  kk
      unfold zf_X8_scoreAt_L5 at hf
      refine lv_iload hx hb zd_X8_scoreAt_5 (lv_at hl 4 rfl) ?_
      refine zl_aload_n hx hb zd_X8_scoreAt_7 rfl (lv_at hl 0 rfl) ?_
      replace hf := zo_b hf; obtain ⟨v1, ev1, hf⟩ := hf
      obtain ⟨u2, u2e, u2v⟩ := zo_b ev1
      obtain rfl := zv_i_e u2v
      refine zw_get S hK hw zk_8 (k := 5) (by decide) rfl zm_218 (Or.inl rfl) u2e zd_X8_scoreAt_8 ?_
      refine lv_iconst (v := 2) hx hb zd_X8_scoreAt_11 (by decide) ?_
      refine lv_iadd hx hb zd_X8_scoreAt_12 ?_
      refine lv_icmp_ge (tgt := 77) hx hb zd_X8_scoreAt_13 (by decide) (fun c3 => ?_) (fun c3 => ?_)
      · replace hf := zo_t c3 hf
        have hres := Option.some.inj hf; subst hres
        exact kk _ _ _ hw (lv_sub hl [3] rfl)
      · replace hf := zo_f c3 hf
        refine lv_iload hx hb zd_X8_scoreAt_16 (lv_at hl 4 rfl) ?_
        refine zl_aload_n hx hb zd_X8_scoreAt_18 rfl (lv_at hl 0 rfl) ?_
        replace hf := zo_b hf; obtain ⟨v4, ev4, hf⟩ := hf
        obtain ⟨u5, u5e, u5v⟩ := zo_b ev4
        obtain rfl := zv_r_e u5v
        refine zw_get S hK hw zk_8 (k := 4) (by decide) rfl zm_217 (Or.inl rfl) u5e zd_X8_scoreAt_19 ?_
        replace hf := zo_b hf; obtain ⟨a6, na6, hf⟩ := hf
        refine W.eq (g2 := F0 m 22 ls [va_rf ((some a6)), .int (y4)]) (by rw [na6] <;> rfl) ?_
        replace hf := zo_b hf; obtain ⟨v7, ev7, hf⟩ := hf
        refine zw_alen S hK hw ev7 zd_X8_scoreAt_22 ?_
        refine lv_icmp_ge (tgt := 77) hx hb zd_X8_scoreAt_23 (by decide) (fun c8 => ?_) (fun c8 => ?_)
        · replace hf := zo_t c8 hf
          have hres := Option.some.inj hf; subst hres
          exact kk _ _ _ hw (lv_sub hl [3] rfl)
        · replace hf := zo_f c8 hf
          refine zl_aload_n hx hb zd_X8_scoreAt_26 rfl (lv_at hl 0 rfl) ?_
          replace hf := zo_b hf; obtain ⟨v9, ev9, hf⟩ := hf
          obtain ⟨u10, u10e, u10v⟩ := zo_b ev9
          obtain rfl := zv_r_e u10v
          refine zw_get S hK hw zk_8 (k := 4) (by decide) rfl zm_217 (Or.inl rfl) u10e zd_X8_scoreAt_27 ?_
          refine lv_iload hx hb zd_X8_scoreAt_30 (lv_at hl 4 rfl) ?_
          replace hf := zo_b hf; obtain ⟨a11, na11, hf⟩ := hf
          refine W.eq (g2 := F0 m 32 ls [.int (y4), va_rf ((some a11))]) (by rw [na11] <;> rfl) ?_
          replace hf := zo_b hf; obtain ⟨v12, ev12, hf⟩ := hf
          refine zw_lald S hK hw ev12 zd_X8_scoreAt_32 ?_
          refine zl_aload_n hx hb zd_X8_scoreAt_33 rfl (lv_at hl 1 rfl) ?_
          refine lv_iload_n hx hb zd_X8_scoreAt_34 rfl (lv_at hl 2 rfl) ?_
          refine lv_iconst (v := 1) hx hb zd_X8_scoreAt_35 (by decide) ?_
          refine lv_isub hx hb zd_X8_scoreAt_36 ?_
          refine lv_iload hx hb zd_X8_scoreAt_37 (lv_at hl 4 rfl) ?_
          refine lv_iadd hx hb zd_X8_scoreAt_39 ?_
          replace hf := zo_b hf; obtain ⟨a13, na13, hf⟩ := hf
          refine W.eq (g2 := F0 m 40 ls [.int (((y2 - 1) + y4)), va_rf ((some a13)), .long (v12)]) (by rw [na13] <;> rfl) ?_
          replace hf := zo_b hf; obtain ⟨r14, er14, hf⟩ := hf
          refine zw_callV (n := 1) (ci := 4) (q := zc_cl[4]) (As := [.int (((y2 - 1) + y4))]) (rest := [.long (v12)]) S hK hw (zt_X4_lineAt l g h a13 ((y2 - 1) + y4) _ er14) zm_843 zm_622 zm_623 zq_X4_lineAt zm_84 (by decide +kernel) ⟨Nat.le_of_ble_eq_true rfl, Nat.le_of_ble_eq_true rfl⟩ rfl rfl rfl (zi_X4_lineAt er14) hl.1 rfl (by simp [zv_cat, zv_ci, zv_cj]) zd_X8_scoreAt_40 ⟨(Nat.le_refl 0), (Nat.le_refl 0)⟩ (fun H locs hw => ?_)
          replace hw : zc_W g h H locs := hw
          refine W.lcmp hx hb zd_X8_scoreAt_43 ?_
          have k71h : ∀ (y71_3 : Int32) (H : Heap) (locs : List Loc) (ls : Array Slot), (
              zf_X8_scoreAt_L5 h q y1 y2 n y71_3 (y4 + 1)
              ) = some w → zc_W g h H locs → lv_has ls 5 [(0, va_rf ((some q))), (1, va_rf (y1)), (2, .int (y2)), (3, .int (y71_3)), (4, .int (y4))] → W p l e zr_X8_scoreAt s m [va_rf ((some q)), va_rf (x1), .int (x2)].toArray below meth c H locs (0 + 0) (0 + 0) (zc_Q g below zr_X8_scoreAt (some (.int (res))) h [va_rf ((some q)), va_rf (x1), .int (x2)] s) (F0 m 71 ls []) := by
            intro y71_3 H locs ls hf hw hl
            refine lv_iinc (i := 4) (v := (y4 + 1)) (lv' := [(4, .int ((y4 + 1))), (0, va_rf ((some q))), (1, va_rf (y1)), (2, .int (y2)), (3, .int (y71_3))]) hx hb zd_X8_scoreAt_71 hl (k := 4) rfl (congrArg (_ + ·) (by decide)) (by decide) rfl (fun ls hl => ?_)
            refine lv_goto (tgt := 5) hx hb zd_X8_scoreAt_74 (by decide) ?_
            exact ih y71_3 (y4 + 1) _ _ _ _ hf hw (lv_sub hl [1, 2, 3, 4, 0] rfl) kk
          refine lv_if_ne (tgt := 71) hx hb zd_X8_scoreAt_44 (by decide) (fun c15 => ?_) (fun c15 => ?_)
          · replace hf := zo_f c15 hf
            exact k71h y3 _ _ _ hf hw (lv_sub hl [0, 1, 2, 3, 4] rfl)
          · replace hf := zo_t c15 hf
            refine lv_iload_n hx hb zd_X8_scoreAt_47 rfl (lv_at hl 3 rfl) ?_
            refine lv_iload hx hb zd_X8_scoreAt_48 (lv_at hl 4 rfl) ?_
            have k69h : ∀ (s69_0 : Int32) (s69_1 : Int32) (H : Heap) (locs : List Loc) (ls : Array Slot), (
                let k71 := fun (y71_3 : Int32) =>
                  zf_X8_scoreAt_L5 h q y1 y2 n y71_3 (y4 + 1)
                k71 (s69_1 + s69_0)
                ) = some w → zc_W g h H locs → lv_has ls 5 [(0, va_rf ((some q))), (1, va_rf (y1)), (2, .int (y2)), (4, .int (y4))] → W p l e zr_X8_scoreAt s m [va_rf ((some q)), va_rf (x1), .int (x2)].toArray below meth c H locs (0 + 0) (0 + 0) (zc_Q g below zr_X8_scoreAt (some (.int (res))) h [va_rf ((some q)), va_rf (x1), .int (x2)] s) (F0 m 69 ls [.int (s69_0), .int (s69_1)]) := by
              intro s69_0 s69_1 H locs ls hf hw hl
              refine lv_iadd hx hb zd_X8_scoreAt_69 ?_
              refine lv_istore_n (i := 3) (lv' := [(3, .int ((s69_1 + s69_0))), (0, va_rf ((some q))), (1, va_rf (y1)), (2, .int (y2)), (4, .int (y4))]) hx hb zd_X8_scoreAt_70 rfl hl (by decide) rfl (fun ls hl => ?_)
              exact k71h (s69_1 + s69_0) _ _ _ hf hw (lv_sub hl [1, 2, 3, 0, 4] rfl)
            have k64h : ∀ (s64_0 : Int32) (H : Heap) (locs : List Loc) (ls : Array Slot), (
                let k71 := fun (y71_3 : Int32) =>
                  zf_X8_scoreAt_L5 h q y1 y2 n y71_3 (y4 + 1)
                let k69 := fun (s69_0 : Int32) (s69_1 : Int32) =>
                  k71 (s69_1 + s69_0)
                k69 2 s64_0
                ) = some w → zc_W g h H locs → lv_has ls 5 [(0, va_rf ((some q))), (1, va_rf (y1)), (2, .int (y2)), (4, .int (y4))] → W p l e zr_X8_scoreAt s m [va_rf ((some q)), va_rf (x1), .int (x2)].toArray below meth c H locs (0 + 0) (0 + 0) (zc_Q g below zr_X8_scoreAt (some (.int (res))) h [va_rf ((some q)), va_rf (x1), .int (x2)] s) (F0 m 64 ls [.int (s64_0)]) := by
              intro s64_0 H locs ls hf hw hl
              refine lv_iconst (v := 2) hx hb zd_X8_scoreAt_64 (by decide) ?_
              refine lv_goto (tgt := 69) hx hb zd_X8_scoreAt_65 (by decide) ?_
              exact k69h 2 s64_0 _ _ _ hf hw (lv_sub hl [0, 1, 2, 3] rfl)
            refine lv_if_eq (tgt := 64) hx hb zd_X8_scoreAt_50 (by decide) (fun c16 => ?_) (fun c16 => ?_)
            · replace hf := zo_t c16 hf
              exact k64h y3 _ _ _ hf hw (lv_sub hl [0, 1, 2, 4] rfl)
            · replace hf := zo_f c16 hf
              refine lv_iload hx hb zd_X8_scoreAt_53 (lv_at hl 4 rfl) ?_
              refine zl_aload_n hx hb zd_X8_scoreAt_55 rfl (lv_at hl 0 rfl) ?_
              replace hf := zo_b hf; obtain ⟨v17, ev17, hf⟩ := hf
              obtain ⟨u18, u18e, u18v⟩ := zo_b ev17
              obtain rfl := zv_i_e u18v
              refine zw_get S hK hw zk_8 (k := 5) (by decide) rfl zm_218 (Or.inl rfl) u18e zd_X8_scoreAt_56 ?_
              refine lv_iconst (v := 1) hx hb zd_X8_scoreAt_59 (by decide) ?_
              refine lv_iadd hx hb zd_X8_scoreAt_60 ?_
              refine lv_icmp_ne (tgt := 68) hx hb zd_X8_scoreAt_61 (by decide) (fun c19 => ?_) (fun c19 => ?_)
              · replace hf := zo_f c19 hf
                refine lv_iconst (v := 3) hx hb zd_X8_scoreAt_68 (by decide) ?_
                exact k69h 3 y3 _ _ _ hf hw (lv_sub hl [0, 1, 2, 4] rfl)
              · replace hf := zo_t c19 hf
                exact k64h y3 _ _ _ hf hw (lv_sub hl [0, 1, 2, 4] rfl)
  unfold zf_X8_scoreAt at hf
  obtain ⟨-, hf⟩ := zo_n hf
  refine lv_iconst (v := 0) hx hb zd_X8_scoreAt_0 (by decide) ?_
  refine lv_istore_n (i := 3) (lv' := [(3, .int (0)), (0, va_rf ((some q))), (1, va_rf (x1)), (2, .int (x2))]) hx hb zd_X8_scoreAt_1 rfl hl (by decide) rfl (fun ls hl => ?_)
  refine lv_iconst (v := 0) hx hb zd_X8_scoreAt_2 (by decide) ?_
  refine lv_istore (i := 4) (lv' := [(4, .int (0)), (3, .int (0)), (0, va_rf ((some q))), (1, va_rf (x1)), (2, .int (x2))]) hx hb zd_X8_scoreAt_3 hl (by decide) rfl (fun ls hl => ?_)
  replace hf := zo_b hf; obtain ⟨w20, w20e, hf⟩ := hf
  refine L5 h x1 x2 2000 0 0 _ _ _ _ w20e hw (lv_sub hl [2, 3, 4, 1, 0] rfl) (fun H locs ls hw hl => ?_)
  refine lv_iload_n hx hb zd_X8_scoreAt_77 rfl (lv_at hl 0 rfl) ?_
  have hres := Option.some.inj hf; subst hres
  exact zw_iret (v := w20) (ty := .int) hx hb hr hlk rfl hw zd_X8_scoreAt_78 (Nat.le_refl 0) (Nat.le_refl 0)
def zf_X8_weigh_L17 (q : Nat) (y1 : Option Nat) : Nat → zc_H → Int32 → Option (zc_H)
  | 0, _, _ => none
  | n + 1, h, y2 =>
    y1.bind fun a4 =>
    (zf_X4_count h a4).bind fun r5 =>
    (zf_gi h q 8 5).bind fun v6 =>
    if (r5 - v6) < y2 then
      some h
    else
    (zf_X8_scoreAt h q y1 y2).bind fun r9 =>
    (zf_gi h q 8 6).bind fun v10 =>
    let k78 := fun (h78j : zc_H) =>
      zf_X8_weigh_L17 q y1 n h78j (y2 + 1)
    if r9 ≤ v10 then
      (zf_gi h q 8 8).bind fun v13 =>
      (zf_p h q 8 8 (.int ((if v13 < r9 then r9 else v13)))).bind fun h15 =>
      k78 h15
    else
    (zf_gi h q 8 6).bind fun v16 =>
    (zf_p h q 8 8 (.int (v16))).bind fun h18 =>
    (zf_p h18 q 8 6 (.int (r9))).bind fun h19 =>
    (zf_p h19 q 8 7 (.int (y2))).bind fun h20 =>
    k78 h20
def zf_X8_weigh (h : zc_H) (q : Nat) (x1 : Option Nat) : Option (zc_H) :=
  if ¬ zf_is h q 8 = true then none else
  (zf_p h q 8 6 (.int ((-1)))).bind fun h1 =>
  (zf_p h1 q 8 7 (.int ((-1)))).bind fun h2 =>
  (zf_p h2 q 8 8 (.int ((-1)))).bind fun h3 =>
  (zf_X8_weigh_L17 q x1 2000 h3 0).bind fun w21 =>
  some w21
abbrev zr_X8_weigh : Room := { frames := 2, cells := 0, slots := 0, locals := 45 }
theorem zi_X8_weigh {h : zc_H} {q : Nat} {x1 : Option Nat} {res : zc_H} (hf : zf_X8_weigh h q x1 = some res) : zf_is h q 8 = true := Decidable.not_not.mp (zo_n hf).1
set_option maxHeartbeats 4000000 in
set_option maxRecDepth 20000 in
theorem zt_X8_weigh (l : Launch) (g : zc_G) (h : zc_H) (q : Nat) (x1 : Option Nat) (res : zc_H) (hf : zf_X8_weigh h q x1 = some res) : zc_M l g yX8_weigh cX8_weigh 4 none zr_X8_weigh h [va_rf ((some q)), va_rf (x1)] res none := by
  refine zc_M.of (by decide) (by simp [lg_sl, zv_cat, zv_ci, zv_cj]) ?_
  intro p e s m below meth c ls S hK hw hr hlk hnm hl
  replace S : CallFix p m c cX8_weigh 4 s [va_rf ((some q)), va_rf (x1)].toArray (zc_ws yX8_weigh cX8_weigh 4 none) RX8 := S
  have hx := S.1
  have hb := S.2.1
  replace hl : lv_has ls 4 [(0, va_rf ((some q))), (1, va_rf (x1))] := by simpa [lv_args, zv_cat, zv_ci, zv_cj] using hl
  generalize s.heap = H at hw ⊢
  obtain ⟨locs, hlocs⟩ : ∃ L : List Loc, L = [] := ⟨_, rfl⟩
  rw [← hlocs] at hw ⊢
  have L17 : ∀ (y1 : Option Nat) (n : Nat) (h : zc_H) (y2 : Int32) (w : zc_H) (H : Heap) (locs : List Loc) (ls : Array Slot), zf_X8_weigh_L17 q y1 n h y2 = some w → zc_W g h H locs → lv_has ls 4 [(0, va_rf ((some q))), (1, va_rf (y1)), (2, .int (y2))] → (∀ (H : Heap) (locs : List Loc) (ls : Array Slot), zc_W g w H locs → lv_has ls 4 [] → W p l e zr_X8_weigh s m [va_rf ((some q)), va_rf (x1)].toArray below meth c H locs 0 0 (zc_Q g below zr_X8_weigh none res [va_rf ((some q)), va_rf (x1)] s) (F0 m 84 ls [])) → W p l e zr_X8_weigh s m [va_rf ((some q)), va_rf (x1)].toArray below meth c H locs 0 0 (zc_Q g below zr_X8_weigh none res [va_rf ((some q)), va_rf (x1)] s) (F0 m 17 ls []) := by
    intro y1 n
    induction n with
    | zero =>
      intro h y2 w H locs ls hf
      cases hf
    | succ n ih =>
      intro h y2 w H locs ls hf hw hl  kk
      unfold zf_X8_weigh_L17 at hf
      refine lv_iload_n hx hb zd_X8_weigh_17 rfl (lv_at hl 2 rfl) ?_
      refine zl_aload_n hx hb zd_X8_weigh_18 rfl (lv_at hl 1 rfl) ?_
      replace hf := zo_b hf; obtain ⟨a4, na4, hf⟩ := hf
      refine W.eq (g2 := F0 m 19 ls [va_rf ((some a4)), .int (y2)]) (by rw [na4] <;> rfl) ?_
      replace hf := zo_b hf; obtain ⟨r5, er5, hf⟩ := hf
      refine zw_callV (n := 0) (ci := 4) (q := zc_cl[4]) (As := []) (rest := [.int (y2)]) S hK hw (zt_X4_count l g h a4 _ er5) zm_877 zm_618 zm_619 zq_X4_count zm_84 (by decide +kernel) ⟨Nat.le_of_ble_eq_true rfl, Nat.le_of_ble_eq_true rfl⟩ rfl rfl rfl (zi_X4_count er5) hl.1 rfl (by simp [zv_cat, zv_ci, zv_cj]) zd_X8_weigh_19 ⟨(Nat.le_refl 0), (Nat.le_refl 0)⟩ (fun H locs hw => ?_)
      replace hw : zc_W g h H locs := hw
      refine zl_aload_n hx hb zd_X8_weigh_22 rfl (lv_at hl 0 rfl) ?_
      replace hf := zo_b hf; obtain ⟨v6, ev6, hf⟩ := hf
      obtain ⟨u7, u7e, u7v⟩ := zo_b ev6
      obtain rfl := zv_i_e u7v
      refine zw_get S hK hw zk_8 (k := 5) (by decide) rfl zm_218 (Or.inl rfl) u7e zd_X8_weigh_23 ?_
      refine lv_isub hx hb zd_X8_weigh_26 ?_
      refine lv_icmp_gt (tgt := 84) hx hb zd_X8_weigh_27 (by decide) (fun c8 => ?_) (fun c8 => ?_)
      · replace hf := zo_t c8 hf
        have hres := Option.some.inj hf; subst hres
        exact kk _ _ _ hw (lv_sub hl [] rfl)
      · replace hf := zo_f c8 hf
        refine zl_aload_n hx hb zd_X8_weigh_30 rfl (lv_at hl 0 rfl) ?_
        refine zl_aload_n hx hb zd_X8_weigh_31 rfl (lv_at hl 1 rfl) ?_
        refine lv_iload_n hx hb zd_X8_weigh_32 rfl (lv_at hl 2 rfl) ?_
        replace hf := zo_b hf; obtain ⟨r9, er9, hf⟩ := hf
        refine zw_callV (n := 2) (ci := 8) (q := zc_cl[8]) (As := [va_rf (y1), .int (y2)]) (rest := []) S hK hw (zt_X8_scoreAt l g h q y1 y2 _ er9) zm_878 zm_879 zm_880 zq_X8_scoreAt zm_75 (by decide +kernel) ⟨Nat.le_of_ble_eq_true rfl, Nat.le_of_ble_eq_true rfl⟩ rfl rfl rfl (zi_X8_scoreAt er9) hl.1 rfl (by simp [zv_cat, zv_ci, zv_cj]) zd_X8_weigh_33 ⟨(Nat.le_refl 0), (Nat.le_refl 0)⟩ (fun H locs hw => ?_)
        replace hw : zc_W g h H locs := hw
        refine lv_istore_n (i := 3) (lv' := [(3, .int (r9)), (0, va_rf ((some q))), (1, va_rf (y1)), (2, .int (y2))]) hx hb zd_X8_weigh_36 rfl hl (by decide) rfl (fun ls hl => ?_)
        refine lv_iload_n hx hb zd_X8_weigh_37 rfl (lv_at hl 0 rfl) ?_
        refine zl_aload_n hx hb zd_X8_weigh_38 rfl (lv_at hl 1 rfl) ?_
        replace hf := zo_b hf; obtain ⟨v10, ev10, hf⟩ := hf
        obtain ⟨u11, u11e, u11v⟩ := zo_b ev10
        obtain rfl := zv_i_e u11v
        refine zw_get S hK hw zk_8 (k := 6) (by decide) rfl zm_219 (Or.inl rfl) u11e zd_X8_weigh_39 ?_
        have k78h : ∀ (h78j : zc_H) (H : Heap) (locs : List Loc) (ls : Array Slot), (
            zf_X8_weigh_L17 q y1 n h78j (y2 + 1)
            ) = some w → zc_W g h78j H locs → lv_has ls 4 [(0, va_rf ((some q))), (1, va_rf (y1)), (2, .int (y2))] → W p l e zr_X8_weigh s m [va_rf ((some q)), va_rf (x1)].toArray below meth c H locs ((0 + 0) + 0) ((0 + 0) + 0) (zc_Q g below zr_X8_weigh none res [va_rf ((some q)), va_rf (x1)] s) (F0 m 78 ls []) := by
          intro h78j H locs ls hf hw hl
          refine lv_iinc (i := 2) (v := (y2 + 1)) (lv' := [(2, .int ((y2 + 1))), (0, va_rf ((some q))), (1, va_rf (y1))]) hx hb zd_X8_weigh_78 hl (k := 2) rfl (congrArg (_ + ·) (by decide)) (by decide) (by simp [List.filter, zv_cat, zv_ci, zv_cj]) (fun ls hl => ?_)
          refine lv_goto (tgt := 17) hx hb zd_X8_weigh_81 (by decide) ?_
          exact ih h78j (y2 + 1) _ _ _ _ hf hw (lv_sub hl [1, 2, 0] rfl) kk
        refine lv_icmp_le (tgt := 66) hx hb zd_X8_weigh_42 (by decide) (fun c12 => ?_) (fun c12 => ?_)
        · replace hf := zo_t c12 hf
          refine zl_aload_n hx hb zd_X8_weigh_66 rfl (lv_at hl 1 rfl) ?_
          refine zl_aload_n hx hb zd_X8_weigh_67 rfl (lv_at hl 1 rfl) ?_
          replace hf := zo_b hf; obtain ⟨v13, ev13, hf⟩ := hf
          obtain ⟨u14, u14e, u14v⟩ := zo_b ev13
          obtain rfl := zv_i_e u14v
          refine zw_get S hK hw zk_8 (k := 8) (by decide) rfl zm_222 (Or.inl rfl) u14e zd_X8_weigh_68 ?_
          refine lv_iload_n hx hb zd_X8_weigh_71 rfl (lv_at hl 0 rfl) ?_
          refine va_mmax hx hb (S.2.2.1.trans hl.1.symm) S.2.2.2.1 (S.2.2.2.2 _ (List.mem_cons_of_mem _ zm_882)) (S.2.2.2.2 _ (List.mem_cons_of_mem _ zm_569)) (S.2.2.2.2 _ (List.mem_cons_of_mem _ zm_85)) (S.2.2.2.2 _ (List.mem_cons_of_mem _ zm_570)) (Nat.le_of_ble_eq_true rfl) (by simp [zv_cat, zv_ci, zv_cj, zr_X8_weigh]) (Nat.le_refl 0) (Nat.le_refl 0) zd_X8_weigh_72 ?_
          replace hf := zo_b hf; obtain ⟨h15, eh15, hf⟩ := hf
          refine zw_put S hK hw zk_8 (k := 8) (by decide) rfl zm_222 (Or.inl rfl) eh15 (ty := .int) (by decide +kernel) rfl rfl zd_X8_weigh_75 (fun H locs hw => ?_)
          exact k78h h15 _ _ _ hf hw (lv_sub hl [1, 2, 3] rfl)
        · replace hf := zo_f c12 hf
          refine zl_aload_n hx hb zd_X8_weigh_45 rfl (lv_at hl 1 rfl) ?_
          refine zl_aload_n hx hb zd_X8_weigh_46 rfl (lv_at hl 1 rfl) ?_
          replace hf := zo_b hf; obtain ⟨v16, ev16, hf⟩ := hf
          obtain ⟨u17, u17e, u17v⟩ := zo_b ev16
          obtain rfl := zv_i_e u17v
          refine zw_get S hK hw zk_8 (k := 6) (by decide) rfl zm_219 (Or.inl rfl) u17e zd_X8_weigh_47 ?_
          replace hf := zo_b hf; obtain ⟨h18, eh18, hf⟩ := hf
          refine zw_put S hK hw zk_8 (k := 8) (by decide) rfl zm_222 (Or.inl rfl) eh18 (ty := .int) (by decide +kernel) rfl rfl zd_X8_weigh_50 (fun H locs hw => ?_)
          refine zl_aload_n hx hb zd_X8_weigh_53 rfl (lv_at hl 1 rfl) ?_
          refine lv_iload_n hx hb zd_X8_weigh_54 rfl (lv_at hl 0 rfl) ?_
          replace hf := zo_b hf; obtain ⟨h19, eh19, hf⟩ := hf
          refine zw_put S hK hw zk_8 (k := 6) (by decide) rfl zm_219 (Or.inl rfl) eh19 (ty := .int) (by decide +kernel) rfl rfl zd_X8_weigh_55 (fun H locs hw => ?_)
          refine zl_aload_n hx hb zd_X8_weigh_58 rfl (lv_at hl 1 rfl) ?_
          refine lv_iload_n hx hb zd_X8_weigh_59 rfl (lv_at hl 3 rfl) ?_
          replace hf := zo_b hf; obtain ⟨h20, eh20, hf⟩ := hf
          refine zw_put S hK hw zk_8 (k := 7) (by decide) rfl zm_221 (Or.inl rfl) eh20 (ty := .int) (by decide +kernel) rfl rfl zd_X8_weigh_60 (fun H locs hw => ?_)
          refine lv_goto (tgt := 78) hx hb zd_X8_weigh_63 (by decide) ?_
          exact k78h h20 _ _ _ hf hw (lv_sub hl [1, 2, 3] rfl)
  unfold zf_X8_weigh at hf
  obtain ⟨-, hf⟩ := zo_n hf
  refine zl_aload_n hx hb zd_X8_weigh_0 rfl (lv_at hl 0 rfl) ?_
  refine lv_iconst (v := (-1)) hx hb zd_X8_weigh_1 (by decide) ?_
  replace hf := zo_b hf; obtain ⟨h1, eh1, hf⟩ := hf
  refine zw_put S hK hw zk_8 (k := 6) (by decide) rfl zm_219 (Or.inl rfl) eh1 (ty := .int) (by decide +kernel) rfl rfl zd_X8_weigh_2 (fun H locs hw => ?_)
  refine zl_aload_n hx hb zd_X8_weigh_5 rfl (lv_at hl 0 rfl) ?_
  refine lv_iconst (v := (-1)) hx hb zd_X8_weigh_6 (by decide) ?_
  replace hf := zo_b hf; obtain ⟨h2, eh2, hf⟩ := hf
  refine zw_put S hK hw zk_8 (k := 7) (by decide) rfl zm_221 (Or.inl rfl) eh2 (ty := .int) (by decide +kernel) rfl rfl zd_X8_weigh_7 (fun H locs hw => ?_)
  refine zl_aload_n hx hb zd_X8_weigh_10 rfl (lv_at hl 0 rfl) ?_
  refine lv_iconst (v := (-1)) hx hb zd_X8_weigh_11 (by decide) ?_
  replace hf := zo_b hf; obtain ⟨h3, eh3, hf⟩ := hf
  refine zw_put S hK hw zk_8 (k := 8) (by decide) rfl zm_222 (Or.inl rfl) eh3 (ty := .int) (by decide +kernel) rfl rfl zd_X8_weigh_12 (fun H locs hw => ?_)
  refine lv_iconst (v := 0) hx hb zd_X8_weigh_15 (by decide) ?_
  refine lv_istore_n (i := 2) (lv' := [(2, .int (0)), (0, va_rf ((some q))), (1, va_rf (x1))]) hx hb zd_X8_weigh_16 rfl hl (by decide) (by simp [List.filter, zv_cat, zv_ci, zv_cj]) (fun ls hl => ?_)
  replace hf := zo_b hf; obtain ⟨w21, w21e, hf⟩ := hf
  refine L17 x1 2000 h3 0 _ _ _ _ w21e hw (lv_sub hl [1, 2, 0] rfl) (fun H locs ls hw hl => ?_)
  have hres := Option.some.inj hf; subst hres
  exact zw_vret hx hb hr hlk hw zd_X8_weigh_84 (Nat.le_refl 0) (Nat.le_refl 0)
def zf_X8_keepsMargin (h : zc_H) (q : Nat) : Option (Int32) :=
  if ¬ zf_is h q 8 = true then none else
  (zf_gi h q 8 7).bind fun v1 =>
  if v1 = (-1) then
    some 0
  else
  (zf_gi h q 8 8).bind fun v4 =>
  if v4 = (-1) then
    some 1
  else
  (zf_gi h q 8 6).bind fun v7 =>
  (zf_gi h q 8 8).bind fun v9 =>
  (zf_gr h q 8 0).bind fun v11 =>
  v11.bind fun a13 =>
  (zf_gi h a13 6 5).bind fun v14 =>
  if (v7 - v9) < v14 then
    some 0
  else
  some 1
abbrev zr_X8_keepsMargin : Room := { frames := 0, cells := 0, slots := 0, locals := 0 }
theorem zi_X8_keepsMargin {h : zc_H} {q : Nat} {res : Int32} (hf : zf_X8_keepsMargin h q = some res) : zf_is h q 8 = true := Decidable.not_not.mp (zo_n hf).1
set_option maxHeartbeats 4000000 in
set_option maxRecDepth 20000 in
theorem zt_X8_keepsMargin (l : Launch) (g : zc_G) (h : zc_H) (q : Nat) (res : Int32) (hf : zf_X8_keepsMargin h q = some res) : zc_M l g yX8_keepsMargin cX8_keepsMargin 1 (some .boolean) zr_X8_keepsMargin h [va_rf ((some q))] h (some (.int (res))) := by
  refine zc_M.of (by decide) (by simp [lg_sl, zv_cat, zv_ci, zv_cj]) ?_
  intro p e s m below meth c ls S hK hw hr hlk hnm hl
  replace S : CallFix p m c cX8_keepsMargin 1 s [va_rf ((some q))].toArray (zc_ws yX8_keepsMargin cX8_keepsMargin 1 (some .boolean)) RX8 := S
  have hx := S.1
  have hb := S.2.1
  replace hl : lv_has ls 1 [(0, va_rf ((some q)))] := by simpa [lv_args, zv_cat, zv_ci, zv_cj] using hl
  generalize s.heap = H at hw ⊢
  obtain ⟨locs, hlocs⟩ : ∃ L : List Loc, L = [] := ⟨_, rfl⟩
  rw [← hlocs] at hw ⊢
  unfold zf_X8_keepsMargin at hf
  obtain ⟨-, hf⟩ := zo_n hf
  refine zl_aload_n hx hb zd_X8_keepsMargin_0 rfl (lv_at hl 0 rfl) ?_
  replace hf := zo_b hf; obtain ⟨v1, ev1, hf⟩ := hf
  obtain ⟨u2, u2e, u2v⟩ := zo_b ev1
  obtain rfl := zv_i_e u2v
  refine zw_get S hK hw zk_8 (k := 7) (by decide) rfl zm_221 (Or.inl rfl) u2e zd_X8_keepsMargin_1 ?_
  refine lv_iconst (v := (-1)) hx hb zd_X8_keepsMargin_4 (by decide) ?_
  refine lv_icmp_eq (tgt := 39) hx hb zd_X8_keepsMargin_5 (by decide) (fun c3 => ?_) (fun c3 => ?_)
  · replace hf := zo_t c3 hf
    refine lv_iconst (v := 0) hx hb zd_X8_keepsMargin_39 (by decide) ?_
    have hres := Option.some.inj hf; subst hres
    exact zw_iret (v := 0) (ty := .boolean) hx hb hr hlk rfl hw zd_X8_keepsMargin_40 (Nat.le_refl 0) (Nat.le_refl 0)
  · replace hf := zo_f c3 hf
    refine zl_aload_n hx hb zd_X8_keepsMargin_8 rfl (lv_at hl 0 rfl) ?_
    replace hf := zo_b hf; obtain ⟨v4, ev4, hf⟩ := hf
    obtain ⟨u5, u5e, u5v⟩ := zo_b ev4
    obtain rfl := zv_i_e u5v
    refine zw_get S hK hw zk_8 (k := 8) (by decide) rfl zm_222 (Or.inl rfl) u5e zd_X8_keepsMargin_9 ?_
    refine lv_iconst (v := (-1)) hx hb zd_X8_keepsMargin_12 (by decide) ?_
    refine lv_icmp_eq (tgt := 35) hx hb zd_X8_keepsMargin_13 (by decide) (fun c6 => ?_) (fun c6 => ?_)
    · replace hf := zo_t c6 hf
      refine lv_iconst (v := 1) hx hb zd_X8_keepsMargin_35 (by decide) ?_
      refine lv_goto (tgt := 40) hx hb zd_X8_keepsMargin_36 (by decide) ?_
      have hres := Option.some.inj hf; subst hres
      exact zw_iret (v := 1) (ty := .boolean) hx hb hr hlk rfl hw zd_X8_keepsMargin_40 (Nat.le_refl 0) (Nat.le_refl 0)
    · replace hf := zo_f c6 hf
      refine zl_aload_n hx hb zd_X8_keepsMargin_16 rfl (lv_at hl 0 rfl) ?_
      replace hf := zo_b hf; obtain ⟨v7, ev7, hf⟩ := hf
      obtain ⟨u8, u8e, u8v⟩ := zo_b ev7
      obtain rfl := zv_i_e u8v
      refine zw_get S hK hw zk_8 (k := 6) (by decide) rfl zm_219 (Or.inl rfl) u8e zd_X8_keepsMargin_17 ?_
      refine zl_aload_n hx hb zd_X8_keepsMargin_20 rfl (lv_at hl 0 rfl) ?_
      replace hf := zo_b hf; obtain ⟨v9, ev9, hf⟩ := hf
      obtain ⟨u10, u10e, u10v⟩ := zo_b ev9
      obtain rfl := zv_i_e u10v
      refine zw_get S hK hw zk_8 (k := 8) (by decide) rfl zm_222 (Or.inl rfl) u10e zd_X8_keepsMargin_21 ?_
      refine lv_isub hx hb zd_X8_keepsMargin_24 ?_
      refine zl_aload_n hx hb zd_X8_keepsMargin_25 rfl (lv_at hl 0 rfl) ?_
      replace hf := zo_b hf; obtain ⟨v11, ev11, hf⟩ := hf
      obtain ⟨u12, u12e, u12v⟩ := zo_b ev11
      obtain rfl := zv_r_e u12v
      refine zw_get S hK hw zk_8 (k := 0) (by decide) rfl zm_210 (Or.inl rfl) u12e zd_X8_keepsMargin_26 ?_
      replace hf := zo_b hf; obtain ⟨a13, na13, hf⟩ := hf
      refine W.eq (g2 := F0 m 29 ls [va_rf ((some a13)), .int ((v7 - v9))]) (by rw [na13] <;> rfl) ?_
      replace hf := zo_b hf; obtain ⟨v14, ev14, hf⟩ := hf
      obtain ⟨u15, u15e, u15v⟩ := zo_b ev14
      obtain rfl := zv_i_e u15v
      refine zw_get S hK hw zk_6 (k := 5) (by decide) rfl zm_143 (Or.inl rfl) u15e zd_X8_keepsMargin_29 ?_
      refine lv_icmp_lt (tgt := 39) hx hb zd_X8_keepsMargin_32 (by decide) (fun c16 => ?_) (fun c16 => ?_)
      · replace hf := zo_t c16 hf
        refine lv_iconst (v := 0) hx hb zd_X8_keepsMargin_39 (by decide) ?_
        have hres := Option.some.inj hf; subst hres
        exact zw_iret (v := 0) (ty := .boolean) hx hb hr hlk rfl hw zd_X8_keepsMargin_40 (Nat.le_refl 0) (Nat.le_refl 0)
      · replace hf := zo_f c16 hf
        refine lv_iconst (v := 1) hx hb zd_X8_keepsMargin_35 (by decide) ?_
        refine lv_goto (tgt := 40) hx hb zd_X8_keepsMargin_36 (by decide) ?_
        have hres := Option.some.inj hf; subst hres
        exact zw_iret (v := 1) (ty := .boolean) hx hb hr hlk rfl hw zd_X8_keepsMargin_40 (Nat.le_refl 0) (Nat.le_refl 0)
def zf_X8_keepContext_L23 (q : Nat) (y1 : Option Nat) (y2 : Int32) : Nat → zc_H → Int32 → Option (zc_H)
  | 0, _, _ => none
  | n + 1, h, y3 =>
    (zf_gi h q 8 5).bind fun v8 =>
    if (v8 + 2) ≤ y3 then
      some h
    else
    (zf_gr h q 8 4).bind fun v11 =>
    v11.bind fun a13 =>
    (zf_len h a13).bind fun v14 =>
    if v14 ≤ y3 then
      some h
    else
    (zf_gr h q 8 4).bind fun v16 =>
    y1.bind fun a18 =>
    (zf_X4_lineAt h a18 (y2 + y3)).bind fun r19 =>
    v16.bind fun a20 =>
    (zf_sj h a20 y3 r19).bind fun h21 =>
    zf_X8_keepContext_L23 q y1 y2 n h21 (y3 + 1)
def zf_X8_keepContext (h : zc_H) (q : Nat) (x1 : Option Nat) : Option (zc_H) :=
  if ¬ zf_is h q 8 = true then none else
  (zf_gi h q 8 2).bind fun v1 =>
  (zf_X9_lengthOf h v1).bind fun r3 =>
  (zf_p h q 8 5 (.int (r3))).bind fun h4 =>
  (zf_gi h4 q 8 2).bind fun v5 =>
  (zf_X9_firstOf h4 v5).bind fun r7 =>
  (zf_X8_keepContext_L23 q x1 (r7 - 1) 2000 h4 0).bind fun w22 =>
  some w22
abbrev zr_X8_keepContext : Room := { frames := 2, cells := 0, slots := 0, locals := 40 }
theorem zi_X8_keepContext {h : zc_H} {q : Nat} {x1 : Option Nat} {res : zc_H} (hf : zf_X8_keepContext h q x1 = some res) : zf_is h q 8 = true := Decidable.not_not.mp (zo_n hf).1
set_option maxHeartbeats 4000000 in
set_option maxRecDepth 20000 in
theorem zt_X8_keepContext (l : Launch) (g : zc_G) (h : zc_H) (q : Nat) (x1 : Option Nat) (res : zc_H) (hf : zf_X8_keepContext h q x1 = some res) : zc_M l g yX8_keepContext cX8_keepContext 4 none zr_X8_keepContext h [va_rf ((some q)), va_rf (x1)] res none := by
  refine zc_M.of (by decide) (by simp [lg_sl, zv_cat, zv_ci, zv_cj]) ?_
  intro p e s m below meth c ls S hK hw hr hlk hnm hl
  replace S : CallFix p m c cX8_keepContext 4 s [va_rf ((some q)), va_rf (x1)].toArray (zc_ws yX8_keepContext cX8_keepContext 4 none) RX8 := S
  have hx := S.1
  have hb := S.2.1
  replace hl : lv_has ls 4 [(0, va_rf ((some q))), (1, va_rf (x1))] := by simpa [lv_args, zv_cat, zv_ci, zv_cj] using hl
  generalize s.heap = H at hw ⊢
  obtain ⟨locs, hlocs⟩ : ∃ L : List Loc, L = [] := ⟨_, rfl⟩
  rw [← hlocs] at hw ⊢
  have L23 : ∀ (y1 : Option Nat) (y2 : Int32) (n : Nat) (h : zc_H) (y3 : Int32) (w : zc_H) (H : Heap) (locs : List Loc) (ls : Array Slot), zf_X8_keepContext_L23 q y1 y2 n h y3 = some w → zc_W g h H locs → lv_has ls 4 [(0, va_rf ((some q))), (1, va_rf (y1)), (2, .int (y2)), (3, .int (y3))] → (∀ (H : Heap) (locs : List Loc) (ls : Array Slot), zc_W g w H locs → lv_has ls 4 [] → W p l e zr_X8_keepContext s m [va_rf ((some q)), va_rf (x1)].toArray below meth c H locs 0 0 (zc_Q g below zr_X8_keepContext none res [va_rf ((some q)), va_rf (x1)] s) (F0 m 61 ls [])) → W p l e zr_X8_keepContext s m [va_rf ((some q)), va_rf (x1)].toArray below meth c H locs 0 0 (zc_Q g below zr_X8_keepContext none res [va_rf ((some q)), va_rf (x1)] s) (F0 m 23 ls []) := by
    intro y1 y2 n
    induction n with
    | zero =>
      intro h y3 w H locs ls hf
      cases hf
    | succ n ih =>
      intro h y3 w H locs ls hf hw hl  kk
      unfold zf_X8_keepContext_L23 at hf
      refine lv_iload_n hx hb zd_X8_keepContext_23 rfl (lv_at hl 3 rfl) ?_
      refine zl_aload_n hx hb zd_X8_keepContext_24 rfl (lv_at hl 0 rfl) ?_
      replace hf := zo_b hf; obtain ⟨v8, ev8, hf⟩ := hf
      obtain ⟨u9, u9e, u9v⟩ := zo_b ev8
      obtain rfl := zv_i_e u9v
      refine zw_get S hK hw zk_8 (k := 5) (by decide) rfl zm_218 (Or.inl rfl) u9e zd_X8_keepContext_25 ?_
      refine lv_iconst (v := 2) hx hb zd_X8_keepContext_28 (by decide) ?_
      refine lv_iadd hx hb zd_X8_keepContext_29 ?_
      refine lv_icmp_ge (tgt := 61) hx hb zd_X8_keepContext_30 (by decide) (fun c10 => ?_) (fun c10 => ?_)
      · replace hf := zo_t c10 hf
        have hres := Option.some.inj hf; subst hres
        exact kk _ _ _ hw (lv_sub hl [] rfl)
      · replace hf := zo_f c10 hf
        refine lv_iload_n hx hb zd_X8_keepContext_33 rfl (lv_at hl 3 rfl) ?_
        refine zl_aload_n hx hb zd_X8_keepContext_34 rfl (lv_at hl 0 rfl) ?_
        replace hf := zo_b hf; obtain ⟨v11, ev11, hf⟩ := hf
        obtain ⟨u12, u12e, u12v⟩ := zo_b ev11
        obtain rfl := zv_r_e u12v
        refine zw_get S hK hw zk_8 (k := 4) (by decide) rfl zm_217 (Or.inl rfl) u12e zd_X8_keepContext_35 ?_
        replace hf := zo_b hf; obtain ⟨a13, na13, hf⟩ := hf
        refine W.eq (g2 := F0 m 38 ls [va_rf ((some a13)), .int (y3)]) (by rw [na13] <;> rfl) ?_
        replace hf := zo_b hf; obtain ⟨v14, ev14, hf⟩ := hf
        refine zw_alen S hK hw ev14 zd_X8_keepContext_38 ?_
        refine lv_icmp_ge (tgt := 61) hx hb zd_X8_keepContext_39 (by decide) (fun c15 => ?_) (fun c15 => ?_)
        · replace hf := zo_t c15 hf
          have hres := Option.some.inj hf; subst hres
          exact kk _ _ _ hw (lv_sub hl [] rfl)
        · replace hf := zo_f c15 hf
          refine zl_aload_n hx hb zd_X8_keepContext_42 rfl (lv_at hl 0 rfl) ?_
          replace hf := zo_b hf; obtain ⟨v16, ev16, hf⟩ := hf
          obtain ⟨u17, u17e, u17v⟩ := zo_b ev16
          obtain rfl := zv_r_e u17v
          refine zw_get S hK hw zk_8 (k := 4) (by decide) rfl zm_217 (Or.inl rfl) u17e zd_X8_keepContext_43 ?_
          refine lv_iload_n hx hb zd_X8_keepContext_46 rfl (lv_at hl 3 rfl) ?_
          refine zl_aload_n hx hb zd_X8_keepContext_47 rfl (lv_at hl 1 rfl) ?_
          refine lv_iload_n hx hb zd_X8_keepContext_48 rfl (lv_at hl 2 rfl) ?_
          refine lv_iload_n hx hb zd_X8_keepContext_49 rfl (lv_at hl 3 rfl) ?_
          refine lv_iadd hx hb zd_X8_keepContext_50 ?_
          replace hf := zo_b hf; obtain ⟨a18, na18, hf⟩ := hf
          refine W.eq (g2 := F0 m 51 ls [.int ((y2 + y3)), va_rf ((some a18)), .int (y3), va_rf (v16)]) (by rw [na18] <;> rfl) ?_
          replace hf := zo_b hf; obtain ⟨r19, er19, hf⟩ := hf
          refine zw_callV (n := 1) (ci := 4) (q := zc_cl[4]) (As := [.int ((y2 + y3))]) (rest := [.int (y3), va_rf (v16)]) S hK hw (zt_X4_lineAt l g h a18 (y2 + y3) _ er19) zm_843 zm_622 zm_623 zq_X4_lineAt zm_84 (by decide +kernel) ⟨Nat.le_of_ble_eq_true rfl, Nat.le_of_ble_eq_true rfl⟩ rfl rfl rfl (zi_X4_lineAt er19) hl.1 rfl (by simp [zv_cat, zv_ci, zv_cj]) zd_X8_keepContext_51 ⟨(Nat.le_refl 0), (Nat.le_refl 0)⟩ (fun H locs hw => ?_)
          replace hw : zc_W g h H locs := hw
          replace hf := zo_b hf; obtain ⟨a20, na20, hf⟩ := hf
          refine W.eq (g2 := F0 m 54 ls [.long (r19), .int (y3), va_rf ((some a20))]) (by rw [na20] <;> rfl) ?_
          replace hf := zo_b hf; obtain ⟨h21, eh21, hf⟩ := hf
          refine zw_last S hK hw eh21 zd_X8_keepContext_54 (fun H locs hw => ?_)
          refine lv_iinc (i := 3) (v := (y3 + 1)) (lv' := [(3, .int ((y3 + 1))), (0, va_rf ((some q))), (1, va_rf (y1)), (2, .int (y2))]) hx hb zd_X8_keepContext_55 hl (k := 3) rfl (congrArg (_ + ·) (by decide)) (by decide) rfl (fun ls hl => ?_)
          refine lv_goto (tgt := 23) hx hb zd_X8_keepContext_58 (by decide) ?_
          exact ih h21 (y3 + 1) _ _ _ _ hf hw (lv_sub hl [1, 2, 3, 0] rfl) kk
  unfold zf_X8_keepContext at hf
  obtain ⟨-, hf⟩ := zo_n hf
  refine zl_aload_n hx hb zd_X8_keepContext_0 rfl (lv_at hl 0 rfl) ?_
  refine zl_aload_n hx hb zd_X8_keepContext_1 rfl (lv_at hl 0 rfl) ?_
  replace hf := zo_b hf; obtain ⟨v1, ev1, hf⟩ := hf
  obtain ⟨u2, u2e, u2v⟩ := zo_b ev1
  obtain rfl := zv_i_e u2v
  refine zw_get S hK hw zk_8 (k := 2) (by decide) rfl zm_212 (Or.inl rfl) u2e zd_X8_keepContext_2 ?_
  replace hf := zo_b hf; obtain ⟨r3, er3, hf⟩ := hf
  refine zw_callSN (n := 1) (As := [.int (v1)]) (rest := [va_rf ((some q))]) S hK hw (zt_X9_lengthOf l g h v1 _ er3) zm_841 zm_468 zq_X9_lengthOf zm_68 (by decide +kernel) ⟨Nat.le_of_ble_eq_true rfl, Nat.le_of_ble_eq_true rfl⟩ rfl hl.1 rfl (by simp [zv_cat, zv_ci, zv_cj]) zd_X8_keepContext_5 ⟨(Nat.le_refl 0), (Nat.le_refl 0)⟩ (fun H locs hw => ?_)
  replace hw : zc_W g h H locs := hw
  replace hf := zo_b hf; obtain ⟨h4, eh4, hf⟩ := hf
  refine zw_put S hK hw zk_8 (k := 5) (by decide) rfl zm_218 (Or.inl rfl) eh4 (ty := .int) (by decide +kernel) rfl rfl zd_X8_keepContext_8 (fun H locs hw => ?_)
  refine zl_aload_n hx hb zd_X8_keepContext_11 rfl (lv_at hl 0 rfl) ?_
  replace hf := zo_b hf; obtain ⟨v5, ev5, hf⟩ := hf
  obtain ⟨u6, u6e, u6v⟩ := zo_b ev5
  obtain rfl := zv_i_e u6v
  refine zw_get S hK hw zk_8 (k := 2) (by decide) rfl zm_212 (Or.inl rfl) u6e zd_X8_keepContext_12 ?_
  replace hf := zo_b hf; obtain ⟨r7, er7, hf⟩ := hf
  refine zw_callSN (n := 1) (As := [.int (v5)]) (rest := []) S hK hw (zt_X9_firstOf l g h4 v5 _ er7) zm_842 zm_474 zq_X9_firstOf zm_68 (by decide +kernel) ⟨Nat.le_of_ble_eq_true rfl, Nat.le_of_ble_eq_true rfl⟩ rfl hl.1 rfl (by simp [zv_cat, zv_ci, zv_cj]) zd_X8_keepContext_15 ⟨(Nat.le_refl 0), (Nat.le_refl 0)⟩ (fun H locs hw => ?_)
  replace hw : zc_W g h4 H locs := hw
  refine lv_iconst (v := 1) hx hb zd_X8_keepContext_18 (by decide) ?_
  refine lv_isub hx hb zd_X8_keepContext_19 ?_
  refine lv_istore_n (i := 2) (lv' := [(2, .int ((r7 - 1))), (0, va_rf ((some q))), (1, va_rf (x1))]) hx hb zd_X8_keepContext_20 rfl hl (by decide) (by simp [List.filter, zv_cat, zv_ci, zv_cj]) (fun ls hl => ?_)
  refine lv_iconst (v := 0) hx hb zd_X8_keepContext_21 (by decide) ?_
  refine lv_istore_n (i := 3) (lv' := [(3, .int (0)), (2, .int ((r7 - 1))), (0, va_rf ((some q))), (1, va_rf (x1))]) hx hb zd_X8_keepContext_22 rfl hl (by decide) rfl (fun ls hl => ?_)
  replace hf := zo_b hf; obtain ⟨w22, w22e, hf⟩ := hf
  refine L23 x1 (r7 - 1) 2000 h4 0 _ _ _ _ w22e hw (lv_sub hl [2, 3, 1, 0] rfl) (fun H locs ls hw hl => ?_)
  have hres := Option.some.inj hf; subst hres
  exact zw_vret hx hb hr hlk hw zd_X8_keepContext_61 (Nat.le_refl 0) (Nat.le_refl 0)
def zf_X8_step (h : zc_H) (q : Nat) (x1 : Option Nat) (x2 : Int32) (x3 : Option Nat) (x4 : Option Nat) : Option (zc_H) :=
  if ¬ zf_is h q 8 = true then none else
  (zf_gi h q 8 2).bind fun v1 =>
  let k38 := fun (h38j : zc_H) =>
    (zf_gi h38j q 8 2).bind fun v4 =>
    if v4 = (-1) then
      (zf_X8_weigh h38j q x4).bind fun r7 =>
      (zf_X8_keepsMargin r7 q).bind fun r8 =>
      let k109 := fun (_ : Unit) =>
        (zf_p r7 q 8 3 (.int (3))).bind fun h10 =>
        some h10
      if r8 = 0 then
        k109 ()
      else
      (zf_gi r7 q 8 6).bind fun v11 =>
      (zf_gr r7 q 8 0).bind fun v13 =>
      v13.bind fun a15 =>
      (zf_gi r7 a15 6 4).bind fun v16 =>
      if v11 < v16 then
        k109 ()
      else
      (zf_gi r7 q 8 7).bind fun v19 =>
      (zf_gi r7 q 8 7).bind fun v21 =>
      (zf_gi r7 q 8 5).bind fun v23 =>
      (zf_X9_spanOf r7 v19 ((v21 + v23) - 1)).bind fun r25 =>
      (zf_p r7 q 8 2 (.int (r25))).bind fun h26 =>
      (zf_p h26 q 8 3 (.int (2))).bind fun h27 =>
      some h27
    else
    (zf_p h38j q 8 3 (.int (1))).bind fun h28 =>
    some h28
  if v1 = (-1) then
    k38 h
  else
  (zf_X8_keepContext h q x3).bind fun r29 =>
  (zf_gi r29 q 8 2).bind fun v30 =>
  (zf_X9_firstOf r29 v30).bind fun r32 =>
  (zf_gi r29 q 8 2).bind fun v33 =>
  (zf_X9_lastOf r29 v33).bind fun r35 =>
  x1.bind fun a36 =>
  (zf_X3_followed r29 a36 x2 r32 r35 x4).bind fun r37 =>
  (zf_p r29 q 8 2 (.int (r37))).bind fun h38 =>
  k38 h38
abbrev zr_X8_step : Room := { frames := 4, cells := 0, slots := 0, locals := 115 }
theorem zi_X8_step {h : zc_H} {q : Nat} {x1 : Option Nat} {x2 : Int32} {x3 : Option Nat} {x4 : Option Nat} {res : zc_H} (hf : zf_X8_step h q x1 x2 x3 x4 = some res) : zf_is h q 8 = true := Decidable.not_not.mp (zo_n hf).1
set_option maxHeartbeats 4000000 in
set_option maxRecDepth 20000 in
theorem zt_X8_step (l : Launch) (g : zc_G) (h : zc_H) (q : Nat) (x1 : Option Nat) (x2 : Int32) (x3 : Option Nat) (x4 : Option Nat) (res : zc_H) (hf : zf_X8_step h q x1 x2 x3 x4 = some res) : zc_M l g yX8_step cX8_step 5 none zr_X8_step h [va_rf ((some q)), va_rf (x1), .int (x2), va_rf (x3), va_rf (x4)] res none := by
  refine zc_M.of (by decide) (by simp [lg_sl, zv_cat, zv_ci, zv_cj]) ?_
  intro p e s m below meth c ls S hK hw hr hlk hnm hl
  replace S : CallFix p m c cX8_step 5 s [va_rf ((some q)), va_rf (x1), .int (x2), va_rf (x3), va_rf (x4)].toArray (zc_ws yX8_step cX8_step 5 none) RX8 := S
  have hx := S.1
  have hb := S.2.1
  replace hl : lv_has ls 5 [(0, va_rf ((some q))), (1, va_rf (x1)), (2, .int (x2)), (3, va_rf (x3)), (4, va_rf (x4))] := by simpa [lv_args, zv_cat, zv_ci, zv_cj] using hl
  generalize s.heap = H at hw ⊢
  obtain ⟨locs, hlocs⟩ : ∃ L : List Loc, L = [] := ⟨_, rfl⟩
  rw [← hlocs] at hw ⊢
  unfold zf_X8_step at hf
  obtain ⟨-, hf⟩ := zo_n hf
  refine zl_aload_n hx hb zd_X8_step_0 rfl (lv_at hl 0 rfl) ?_
  replace hf := zo_b hf; obtain ⟨v1, ev1, hf⟩ := hf
  obtain ⟨u2, u2e, u2v⟩ := zo_b ev1
  obtain rfl := zv_i_e u2v
  refine zw_get S hK hw zk_8 (k := 2) (by decide) rfl zm_212 (Or.inl rfl) u2e zd_X8_step_1 ?_
  refine lv_iconst (v := (-1)) hx hb zd_X8_step_4 (by decide) ?_
  have k38h : ∀ (h38j : zc_H) (H : Heap) (locs : List Loc) (ls : Array Slot), (
      (zf_gi h38j q 8 2).bind fun v4 =>
      if v4 = (-1) then
        (zf_X8_weigh h38j q x4).bind fun r7 =>
        (zf_X8_keepsMargin r7 q).bind fun r8 =>
        let k109 := fun (_ : Unit) =>
          (zf_p r7 q 8 3 (.int (3))).bind fun h10 =>
          some h10
        if r8 = 0 then
          k109 ()
        else
        (zf_gi r7 q 8 6).bind fun v11 =>
        (zf_gr r7 q 8 0).bind fun v13 =>
        v13.bind fun a15 =>
        (zf_gi r7 a15 6 4).bind fun v16 =>
        if v11 < v16 then
          k109 ()
        else
        (zf_gi r7 q 8 7).bind fun v19 =>
        (zf_gi r7 q 8 7).bind fun v21 =>
        (zf_gi r7 q 8 5).bind fun v23 =>
        (zf_X9_spanOf r7 v19 ((v21 + v23) - 1)).bind fun r25 =>
        (zf_p r7 q 8 2 (.int (r25))).bind fun h26 =>
        (zf_p h26 q 8 3 (.int (2))).bind fun h27 =>
        some h27
      else
      (zf_p h38j q 8 3 (.int (1))).bind fun h28 =>
      some h28
      ) = some res → zc_W g h38j H locs → lv_has ls 5 [(0, va_rf ((some q))), (4, va_rf (x4))] → W p l e zr_X8_step s m [va_rf ((some q)), va_rf (x1), .int (x2), va_rf (x3), va_rf (x4)].toArray below meth c H locs 0 0 (zc_Q g below zr_X8_step none res [va_rf ((some q)), va_rf (x1), .int (x2), va_rf (x3), va_rf (x4)] s) (F0 m 38 ls []) := by
    intro h38j H locs ls hf hw hl
    refine zl_aload_n hx hb zd_X8_step_38 rfl (lv_at hl 0 rfl) ?_
    replace hf := zo_b hf; obtain ⟨v4, ev4, hf⟩ := hf
    obtain ⟨u5, u5e, u5v⟩ := zo_b ev4
    obtain rfl := zv_i_e u5v
    refine zw_get S hK hw zk_8 (k := 2) (by decide) rfl zm_212 (Or.inl rfl) u5e zd_X8_step_39 ?_
    refine lv_iconst (v := (-1)) hx hb zd_X8_step_42 (by decide) ?_
    refine lv_icmp_eq (tgt := 52) hx hb zd_X8_step_43 (by decide) (fun c6 => ?_) (fun c6 => ?_)
    · replace hf := zo_t c6 hf
      refine zl_aload_n hx hb zd_X8_step_52 rfl (lv_at hl 0 rfl) ?_
      refine zl_aload hx hb zd_X8_step_53 (lv_at hl 1 rfl) ?_
      replace hf := zo_b hf; obtain ⟨r7, er7, hf⟩ := hf
      refine zw_callV (n := 1) (ci := 8) (q := zc_cl[8]) (As := [va_rf (x4)]) (rest := []) S hK hw (zt_X8_weigh l g h38j q x4 _ er7) zm_873 zm_874 zm_875 zq_X8_weigh zm_75 (by decide +kernel) ⟨Nat.le_of_ble_eq_true rfl, Nat.le_of_ble_eq_true rfl⟩ rfl rfl rfl (zi_X8_weigh er7) hl.1 rfl (by simp [zv_cat, zv_ci, zv_cj]) zd_X8_step_55 ⟨(Nat.le_refl 0), (Nat.le_refl 0)⟩ (fun H locs hw => ?_)
      replace hw : zc_W g r7 H locs := hw
      refine zl_aload_n hx hb zd_X8_step_58 rfl (lv_at hl 0 rfl) ?_
      replace hf := zo_b hf; obtain ⟨r8, er8, hf⟩ := hf
      refine zw_callV (n := 0) (ci := 8) (q := zc_cl[8]) (As := []) (rest := []) S hK hw (zt_X8_keepsMargin l g r7 q _ er8) zm_883 zm_884 zm_885 zq_X8_keepsMargin zm_75 (by decide +kernel) ⟨Nat.le_of_ble_eq_true rfl, Nat.le_of_ble_eq_true rfl⟩ rfl rfl rfl (zi_X8_keepsMargin er8) hl.1 rfl (by simp [zv_cat, zv_ci, zv_cj]) zd_X8_step_59 ⟨(Nat.le_refl 0), (Nat.le_refl 0)⟩ (fun H locs hw => ?_)
      replace hw : zc_W g r7 H locs := hw
      have k109h : ∀ (_ : Unit) (H : Heap) (locs : List Loc) (ls : Array Slot), (
          (zf_p r7 q 8 3 (.int (3))).bind fun h10 =>
          some h10
          ) = some res → zc_W g r7 H locs → lv_has ls 5 [(0, va_rf ((some q)))] → W p l e zr_X8_step s m [va_rf ((some q)), va_rf (x1), .int (x2), va_rf (x3), va_rf (x4)].toArray below meth c H locs ((0 + 0) + 0) ((0 + 0) + 0) (zc_Q g below zr_X8_step none res [va_rf ((some q)), va_rf (x1), .int (x2), va_rf (x3), va_rf (x4)] s) (F0 m 109 ls []) := by
        intro _ H locs ls hf hw hl
        refine zl_aload_n hx hb zd_X8_step_109 rfl (lv_at hl 0 rfl) ?_
        refine lv_iconst (v := 3) hx hb zd_X8_step_110 (by decide) ?_
        replace hf := zo_b hf; obtain ⟨h10, eh10, hf⟩ := hf
        refine zw_put S hK hw zk_8 (k := 3) (by decide) rfl zm_215 (Or.inl rfl) eh10 (ty := .int) (by decide +kernel) rfl rfl zd_X8_step_111 (fun H locs hw => ?_)
        have hres := Option.some.inj hf; subst hres
        exact zw_vret hx hb hr hlk hw zd_X8_step_114 (Nat.le_refl 0) (Nat.le_refl 0)
      refine lv_if_eq (tgt := 109) hx hb zd_X8_step_62 (by decide) (fun c9 => ?_) (fun c9 => ?_)
      · replace hf := zo_t c9 hf
        exact k109h () _ _ _ hf hw (lv_sub hl [0] rfl)
      · replace hf := zo_f c9 hf
        refine zl_aload_n hx hb zd_X8_step_65 rfl (lv_at hl 0 rfl) ?_
        replace hf := zo_b hf; obtain ⟨v11, ev11, hf⟩ := hf
        obtain ⟨u12, u12e, u12v⟩ := zo_b ev11
        obtain rfl := zv_i_e u12v
        refine zw_get S hK hw zk_8 (k := 6) (by decide) rfl zm_219 (Or.inl rfl) u12e zd_X8_step_66 ?_
        refine zl_aload_n hx hb zd_X8_step_69 rfl (lv_at hl 0 rfl) ?_
        replace hf := zo_b hf; obtain ⟨v13, ev13, hf⟩ := hf
        obtain ⟨u14, u14e, u14v⟩ := zo_b ev13
        obtain rfl := zv_r_e u14v
        refine zw_get S hK hw zk_8 (k := 0) (by decide) rfl zm_210 (Or.inl rfl) u14e zd_X8_step_70 ?_
        replace hf := zo_b hf; obtain ⟨a15, na15, hf⟩ := hf
        refine W.eq (g2 := F0 m 73 ls [va_rf ((some a15)), .int (v11)]) (by rw [na15] <;> rfl) ?_
        replace hf := zo_b hf; obtain ⟨v16, ev16, hf⟩ := hf
        obtain ⟨u17, u17e, u17v⟩ := zo_b ev16
        obtain rfl := zv_i_e u17v
        refine zw_get S hK hw zk_6 (k := 4) (by decide) rfl zm_141 (Or.inl rfl) u17e zd_X8_step_73 ?_
        refine lv_icmp_lt (tgt := 109) hx hb zd_X8_step_76 (by decide) (fun c18 => ?_) (fun c18 => ?_)
        · replace hf := zo_t c18 hf
          exact k109h () _ _ _ hf hw (lv_sub hl [0] rfl)
        · replace hf := zo_f c18 hf
          refine zl_aload_n hx hb zd_X8_step_79 rfl (lv_at hl 0 rfl) ?_
          refine zl_aload_n hx hb zd_X8_step_80 rfl (lv_at hl 0 rfl) ?_
          replace hf := zo_b hf; obtain ⟨v19, ev19, hf⟩ := hf
          obtain ⟨u20, u20e, u20v⟩ := zo_b ev19
          obtain rfl := zv_i_e u20v
          refine zw_get S hK hw zk_8 (k := 7) (by decide) rfl zm_221 (Or.inl rfl) u20e zd_X8_step_81 ?_
          refine zl_aload_n hx hb zd_X8_step_84 rfl (lv_at hl 0 rfl) ?_
          replace hf := zo_b hf; obtain ⟨v21, ev21, hf⟩ := hf
          obtain ⟨u22, u22e, u22v⟩ := zo_b ev21
          obtain rfl := zv_i_e u22v
          refine zw_get S hK hw zk_8 (k := 7) (by decide) rfl zm_221 (Or.inl rfl) u22e zd_X8_step_85 ?_
          refine zl_aload_n hx hb zd_X8_step_88 rfl (lv_at hl 0 rfl) ?_
          replace hf := zo_b hf; obtain ⟨v23, ev23, hf⟩ := hf
          obtain ⟨u24, u24e, u24v⟩ := zo_b ev23
          obtain rfl := zv_i_e u24v
          refine zw_get S hK hw zk_8 (k := 5) (by decide) rfl zm_218 (Or.inl rfl) u24e zd_X8_step_89 ?_
          refine lv_iadd hx hb zd_X8_step_92 ?_
          refine lv_iconst (v := 1) hx hb zd_X8_step_93 (by decide) ?_
          refine lv_isub hx hb zd_X8_step_94 ?_
          replace hf := zo_b hf; obtain ⟨r25, er25, hf⟩ := hf
          refine zw_callSN (n := 2) (As := [.int (v19), .int (((v21 + v23) - 1))]) (rest := [va_rf ((some q))]) S hK hw (zt_X9_spanOf l g r7 v19 ((v21 + v23) - 1) _ er25) zm_887 zm_749 zq_X9_spanOf zm_68 (by decide +kernel) ⟨Nat.le_of_ble_eq_true rfl, Nat.le_of_ble_eq_true rfl⟩ rfl hl.1 rfl (by simp [zv_cat, zv_ci, zv_cj]) zd_X8_step_95 ⟨(Nat.le_refl 0), (Nat.le_refl 0)⟩ (fun H locs hw => ?_)
          replace hw : zc_W g r7 H locs := hw
          replace hf := zo_b hf; obtain ⟨h26, eh26, hf⟩ := hf
          refine zw_put S hK hw zk_8 (k := 2) (by decide) rfl zm_212 (Or.inl rfl) eh26 (ty := .int) (by decide +kernel) rfl rfl zd_X8_step_98 (fun H locs hw => ?_)
          refine zl_aload_n hx hb zd_X8_step_101 rfl (lv_at hl 0 rfl) ?_
          refine lv_iconst (v := 2) hx hb zd_X8_step_102 (by decide) ?_
          replace hf := zo_b hf; obtain ⟨h27, eh27, hf⟩ := hf
          refine zw_put S hK hw zk_8 (k := 3) (by decide) rfl zm_215 (Or.inl rfl) eh27 (ty := .int) (by decide +kernel) rfl rfl zd_X8_step_103 (fun H locs hw => ?_)
          refine lv_goto (tgt := 114) hx hb zd_X8_step_106 (by decide) ?_
          have hres := Option.some.inj hf; subst hres
          exact zw_vret hx hb hr hlk hw zd_X8_step_114 (Nat.le_refl 0) (Nat.le_refl 0)
    · replace hf := zo_f c6 hf
      refine zl_aload_n hx hb zd_X8_step_46 rfl (lv_at hl 0 rfl) ?_
      refine lv_iconst (v := 1) hx hb zd_X8_step_47 (by decide) ?_
      replace hf := zo_b hf; obtain ⟨h28, eh28, hf⟩ := hf
      refine zw_put S hK hw zk_8 (k := 3) (by decide) rfl zm_215 (Or.inl rfl) eh28 (ty := .int) (by decide +kernel) rfl rfl zd_X8_step_48 (fun H locs hw => ?_)
      have hres := Option.some.inj hf; subst hres
      exact zw_vret hx hb hr hlk hw zd_X8_step_51 (Nat.le_refl 0) (Nat.le_refl 0)
  refine lv_icmp_eq (tgt := 38) hx hb zd_X8_step_5 (by decide) (fun c3 => ?_) (fun c3 => ?_)
  · replace hf := zo_t c3 hf
    exact k38h h _ _ _ hf hw (lv_sub hl [0, 4] rfl)
  · replace hf := zo_f c3 hf
    refine zl_aload_n hx hb zd_X8_step_8 rfl (lv_at hl 0 rfl) ?_
    refine zl_aload_n hx hb zd_X8_step_9 rfl (lv_at hl 3 rfl) ?_
    replace hf := zo_b hf; obtain ⟨r29, er29, hf⟩ := hf
    refine zw_callV (n := 1) (ci := 8) (q := zc_cl[8]) (As := [va_rf (x3)]) (rest := []) S hK hw (zt_X8_keepContext l g h q x3 _ er29) zm_837 zm_839 zm_17 zq_X8_keepContext zm_75 (by decide +kernel) ⟨Nat.le_of_ble_eq_true rfl, Nat.le_of_ble_eq_true rfl⟩ rfl rfl rfl (zi_X8_keepContext er29) hl.1 rfl (by simp [zv_cat, zv_ci, zv_cj]) zd_X8_step_10 ⟨(Nat.le_refl 0), (Nat.le_refl 0)⟩ (fun H locs hw => ?_)
    replace hw : zc_W g r29 H locs := hw
    refine zl_aload_n hx hb zd_X8_step_13 rfl (lv_at hl 0 rfl) ?_
    refine zl_aload_n hx hb zd_X8_step_14 rfl (lv_at hl 1 rfl) ?_
    refine lv_iload_n hx hb zd_X8_step_15 rfl (lv_at hl 2 rfl) ?_
    refine zl_aload_n hx hb zd_X8_step_16 rfl (lv_at hl 0 rfl) ?_
    replace hf := zo_b hf; obtain ⟨v30, ev30, hf⟩ := hf
    obtain ⟨u31, u31e, u31v⟩ := zo_b ev30
    obtain rfl := zv_i_e u31v
    refine zw_get S hK hw zk_8 (k := 2) (by decide) rfl zm_212 (Or.inl rfl) u31e zd_X8_step_17 ?_
    replace hf := zo_b hf; obtain ⟨r32, er32, hf⟩ := hf
    refine zw_callSN (n := 1) (As := [.int (v30)]) (rest := [.int (x2), va_rf (x1), va_rf ((some q))]) S hK hw (zt_X9_firstOf l g r29 v30 _ er32) zm_842 zm_474 zq_X9_firstOf zm_68 (by decide +kernel) ⟨Nat.le_of_ble_eq_true rfl, Nat.le_of_ble_eq_true rfl⟩ rfl hl.1 rfl (by simp [zv_cat, zv_ci, zv_cj]) zd_X8_step_20 ⟨(Nat.le_refl 0), (Nat.le_refl 0)⟩ (fun H locs hw => ?_)
    replace hw : zc_W g r29 H locs := hw
    refine zl_aload_n hx hb zd_X8_step_23 rfl (lv_at hl 0 rfl) ?_
    replace hf := zo_b hf; obtain ⟨v33, ev33, hf⟩ := hf
    obtain ⟨u34, u34e, u34v⟩ := zo_b ev33
    obtain rfl := zv_i_e u34v
    refine zw_get S hK hw zk_8 (k := 2) (by decide) rfl zm_212 (Or.inl rfl) u34e zd_X8_step_24 ?_
    replace hf := zo_b hf; obtain ⟨r35, er35, hf⟩ := hf
    refine zw_callSN (n := 1) (As := [.int (v33)]) (rest := [.int (r32), .int (x2), va_rf (x1), va_rf ((some q))]) S hK hw (zt_X9_lastOf l g r29 v33 _ er35) zm_844 zm_471 zq_X9_lastOf zm_68 (by decide +kernel) ⟨Nat.le_of_ble_eq_true rfl, Nat.le_of_ble_eq_true rfl⟩ rfl hl.1 rfl (by simp [zv_cat, zv_ci, zv_cj]) zd_X8_step_27 ⟨(Nat.le_refl 0), (Nat.le_refl 0)⟩ (fun H locs hw => ?_)
    replace hw : zc_W g r29 H locs := hw
    refine zl_aload hx hb zd_X8_step_30 (lv_at hl 4 rfl) ?_
    replace hf := zo_b hf; obtain ⟨a36, na36, hf⟩ := hf
    refine W.eq (g2 := F0 m 32 ls [va_rf (x4), .int (r35), .int (r32), .int (x2), va_rf ((some a36)), va_rf ((some q))]) (by rw [na36] <;> rfl) ?_
    replace hf := zo_b hf; obtain ⟨r37, er37, hf⟩ := hf
    refine zw_callV (n := 4) (ci := 3) (q := zc_cl[3]) (As := [.int (x2), .int (r32), .int (r35), va_rf (x4)]) (rest := [va_rf ((some q))]) S hK hw (zt_X3_followed l g r29 a36 x2 r32 r35 x4 _ er37) zm_845 zm_846 zm_847 zq_X3_followed zm_87 (by decide +kernel) ⟨Nat.le_of_ble_eq_true rfl, Nat.le_of_ble_eq_true rfl⟩ rfl rfl rfl (zi_X3_followed er37) hl.1 rfl (by simp [zv_cat, zv_ci, zv_cj]) zd_X8_step_32 ⟨(Nat.le_refl 0), (Nat.le_refl 0)⟩ (fun H locs hw => ?_)
    replace hw : zc_W g r29 H locs := hw
    replace hf := zo_b hf; obtain ⟨h38, eh38, hf⟩ := hf
    refine zw_put S hK hw zk_8 (k := 2) (by decide) rfl zm_212 (Or.inl rfl) eh38 (ty := .int) (by decide +kernel) rfl rfl zd_X8_step_35 (fun H locs hw => ?_)
    exact k38h h38 _ _ _ hf hw (lv_sub hl [0, 4] rfl)
def zf_X8_putOn_L36 (q : Nat) (y1 : Option Nat) (y2 : Int32) : Nat → zc_H → Option Nat → Int32 → Option (zc_H)
  | 0, _, _, _ => none
  | n + 1, h, y4, y5 =>
    if y5 < 0 then
      some h
    else
    (zf_gr h q 8 1).bind fun v14 =>
    v14.bind fun a16 =>
    (zf_Jx4a65c_get_915e3 h a16 y5).bind fun r17 =>
    if ¬ zf_cc h r17 4 = true then none else
    (zf_X8_step h q y1 y2 y4 r17).bind fun r19 =>
    zf_X8_putOn_L36 q y1 y2 n r19 r17 (y5 + (-1))
def zf_X8_putOn (h : zc_H) (q : Nat) (x1 : Option Nat) (x2 : Int32) (x3 : Option Nat) : Option (zc_H × Int32) :=
  if ¬ zf_is h q 8 = true then none else
  x1.bind fun a1 =>
  (zf_gr h a1 3 3).bind fun v2 =>
  (zf_X8_layWay h q v2 x3).bind fun r4 =>
  if r4.2 = 0 then
    some (r4.1, 0)
  else
  (zf_X8_begin r4.1 q x1).bind fun r6 =>
  (zf_gr r6 a1 3 3).bind fun v7 =>
  (zf_gr r6 q 8 1).bind fun v9 =>
  v9.bind fun a11 =>
  (zf_Jx4a65c_size_8abf5 r6 a11).bind fun r12 =>
  (zf_X8_putOn_L36 q x1 x2 17 r6 v7 (r12 - 2)).bind fun w20 =>
  some (w20, 1)
abbrev zr_X8_putOn : Room := { frames := 9, cells := 17, slots := 680, locals := 251 }
theorem zi_X8_putOn {h : zc_H} {q : Nat} {x1 : Option Nat} {x2 : Int32} {x3 : Option Nat} {res : zc_H × Int32} (hf : zf_X8_putOn h q x1 x2 x3 = some res) : zf_is h q 8 = true := Decidable.not_not.mp (zo_n hf).1
set_option maxHeartbeats 4000000 in
set_option maxRecDepth 20000 in
theorem zt_X8_putOn (l : Launch) (g : zc_G) (h : zc_H) (q : Nat) (x1 : Option Nat) (x2 : Int32) (x3 : Option Nat) (res : zc_H × Int32) (hf : zf_X8_putOn h q x1 x2 x3 = some res) : zc_M l g yX8_putOn cX8_putOn 7 (some .boolean) zr_X8_putOn h [va_rf ((some q)), va_rf (x1), .int (x2), va_rf (x3)] res.1 (some (.int (res.2))) := by
  refine zc_M.of (by decide) (by simp [lg_sl, zv_cat, zv_ci, zv_cj]) ?_
  intro p e s m below meth c ls S hK hw hr hlk hnm hl
  replace S : CallFix p m c cX8_putOn 7 s [va_rf ((some q)), va_rf (x1), .int (x2), va_rf (x3)].toArray (zc_ws yX8_putOn cX8_putOn 7 (some .boolean)) RX8 := S
  have hx := S.1
  have hb := S.2.1
  replace hl : lv_has ls 7 [(0, va_rf ((some q))), (1, va_rf (x1)), (2, .int (x2)), (3, va_rf (x3))] := by simpa [lv_args, zv_cat, zv_ci, zv_cj] using hl
  generalize s.heap = H at hw ⊢
  obtain ⟨locs, hlocs⟩ : ∃ L : List Loc, L = [] := ⟨_, rfl⟩
  rw [← hlocs] at hw ⊢
  have L36 : ∀ (y1 : Option Nat) (y2 : Int32) (n : Nat) (h : zc_H) (y4 : Option Nat) (y5 : Int32) (w : zc_H) (H : Heap) (locs : List Loc) (ls : Array Slot) (cl sl : Nat), cl + n * 0 ≤ 17 → sl + n * 0 ≤ 680 → zf_X8_putOn_L36 q y1 y2 n h y4 y5 = some w → zc_W g h H locs → lv_has ls 7 [(0, va_rf ((some q))), (1, va_rf (y1)), (2, .int (y2)), (4, va_rf (y4)), (5, .int (y5))] → (∀ (H : Heap) (locs : List Loc) (ls : Array Slot) (cl1 sl1 : Nat), cl1 ≤ cl + n * 0 → sl1 ≤ sl + n * 0 → zc_W g w H locs → lv_has ls 7 [] → W p l e zr_X8_putOn s m [va_rf ((some q)), va_rf (x1), .int (x2), va_rf (x3)].toArray below meth c H locs cl1 sl1 (zc_Q g below zr_X8_putOn (some (.int (res.2))) res.1 [va_rf ((some q)), va_rf (x1), .int (x2), va_rf (x3)] s) (F0 m 75 ls [])) → W p l e zr_X8_putOn s m [va_rf ((some q)), va_rf (x1), .int (x2), va_rf (x3)].toArray below meth c H locs cl sl (zc_Q g below zr_X8_putOn (some (.int (res.2))) res.1 [va_rf ((some q)), va_rf (x1), .int (x2), va_rf (x3)] s) (F0 m 36 ls []) := by
    intro y1 y2 n
    induction n with
    | zero =>
      intro h y4 y5 w H locs ls cl sl hcl hsl hf
      cases hf
    | succ n ih =>
      intro h y4 y5 w H locs ls cl sl hcl hsl hf hw hl  kk
      unfold zf_X8_putOn_L36 at hf
      refine lv_iload hx hb zd_X8_putOn_36 (lv_at hl 4 rfl) ?_
      refine lv_if_lt (tgt := 75) hx hb zd_X8_putOn_38 (by decide) (fun c13 => ?_) (fun c13 => ?_)
      · replace hf := zo_t c13 hf
        have hres := Option.some.inj hf; subst hres
        exact kk _ _ _ _ _ (by omega) (by omega) hw (lv_sub hl [] rfl)
      · replace hf := zo_f c13 hf
        refine zl_aload_n hx hb zd_X8_putOn_41 rfl (lv_at hl 0 rfl) ?_
        replace hf := zo_b hf; obtain ⟨v14, ev14, hf⟩ := hf
        obtain ⟨u15, u15e, u15v⟩ := zo_b ev14
        obtain rfl := zv_r_e u15v
        refine zw_get S hK hw zk_8 (k := 1) (by decide) rfl zm_211 (Or.inl rfl) u15e zd_X8_putOn_42 ?_
        refine lv_iload hx hb zd_X8_putOn_45 (lv_at hl 4 rfl) ?_
        replace hf := zo_b hf; obtain ⟨a16, na16, hf⟩ := hf
        refine W.eq (g2 := F0 m 47 ls [.int (y5), va_rf ((some a16))]) (by rw [na16] <;> rfl) ?_
        replace hf := zo_b hf; obtain ⟨r17, er17, hf⟩ := hf
        refine zw_callV (n := 1) (ci := 11) (q := zc_cl[11]) (As := [.int (y5)]) (rest := []) S hK hw (zt_Jx4a65c_get_915e3 l g h a16 y5 _ er17) zm_728 zm_429 zm_430 zq_Jx4a65c_get_915e3 zm_72 (by decide +kernel) ⟨Nat.le_of_ble_eq_true rfl, Nat.le_of_ble_eq_true rfl⟩ rfl rfl rfl (zi_Jx4a65c_get_915e3 er17) hl.1 rfl (by simp [zv_cat, zv_ci, zv_cj]) zd_X8_putOn_47 ⟨(by show cl + (0 : Nat) ≤ (17 : Nat); omega), (by show sl + (0 : Nat) ≤ (680 : Nat); omega)⟩ (fun H locs hw => ?_)
        replace hw : zc_W g h H locs := hw
        refine W.widen (k := (cl + 0)) (n := (sl + 0)) (Nat.le_refl _) (Nat.le_refl _) ?_
        replace hf := zo_n hf; obtain ⟨z18, hf⟩ := hf
        refine zw_cast (q := zc_cl[4]) S hK hw zm_729 rfl rfl (Decidable.not_not.mp z18) zd_X8_putOn_50 ?_
        refine zl_astore (i := 6) (lv' := [(6, va_rf (r17)), (0, va_rf ((some q))), (1, va_rf (y1)), (2, .int (y2)), (4, va_rf (y4)), (5, .int (y5))]) hx hb zd_X8_putOn_53 hl (by decide) rfl (fun ls hl => ?_)
        refine zl_aload_n hx hb zd_X8_putOn_55 rfl (lv_at hl 1 rfl) ?_
        refine zl_aload_n hx hb zd_X8_putOn_56 rfl (lv_at hl 2 rfl) ?_
        refine lv_iload_n hx hb zd_X8_putOn_57 rfl (lv_at hl 3 rfl) ?_
        refine zl_aload hx hb zd_X8_putOn_58 (lv_at hl 4 rfl) ?_
        refine zl_aload hx hb zd_X8_putOn_60 (lv_at hl 0 rfl) ?_
        replace hf := zo_b hf; obtain ⟨r19, er19, hf⟩ := hf
        refine zw_callV (n := 4) (ci := 8) (q := zc_cl[8]) (As := [va_rf (y1), .int (y2), va_rf (y4), va_rf (r17)]) (rest := []) S hK hw (zt_X8_step l g h q y1 y2 y4 r17 _ er19) zm_833 zm_835 zm_16 zq_X8_step zm_75 (by decide +kernel) ⟨Nat.le_of_ble_eq_true rfl, Nat.le_of_ble_eq_true rfl⟩ rfl rfl rfl (zi_X8_step er19) hl.1 rfl (by simp [zv_cat, zv_ci, zv_cj]) zd_X8_putOn_62 ⟨(by show (cl + 0) + (0 : Nat) ≤ (17 : Nat); omega), (by show (sl + 0) + (0 : Nat) ≤ (680 : Nat); omega)⟩ (fun H locs hw => ?_)
        replace hw : zc_W g r19 H locs := hw
        refine W.widen (k := ((cl + 0) + 0)) (n := ((sl + 0) + 0)) (Nat.le_refl _) (Nat.le_refl _) ?_
        refine zl_aload hx hb zd_X8_putOn_65 (lv_at hl 0 rfl) ?_
        refine zl_astore (i := 4) (lv' := [(4, va_rf (r17)), (6, va_rf (r17)), (0, va_rf ((some q))), (1, va_rf (y1)), (2, .int (y2)), (5, .int (y5))]) hx hb zd_X8_putOn_67 hl (by decide) rfl (fun ls hl => ?_)
        refine lv_iinc (i := 5) (v := (y5 + (-1))) (lv' := [(5, .int ((y5 + (-1)))), (4, va_rf (r17)), (6, va_rf (r17)), (0, va_rf ((some q))), (1, va_rf (y1)), (2, .int (y2))]) hx hb zd_X8_putOn_69 hl (k := 5) rfl (congrArg (_ + ·) (by decide)) (by decide) (by simp [List.filter, zv_cat, zv_ci, zv_cj]) (fun ls hl => ?_)
        refine lv_goto (tgt := 36) hx hb zd_X8_putOn_72 (by decide) ?_
        exact ih r19 r17 (y5 + (-1)) _ _ _ _ _ _ (by omega) (by omega) hf hw (lv_sub hl [3, 4, 5, 1, 0] rfl) (fun H locs ls cl1 sl1 h1 h2 => kk H locs ls cl1 sl1 (by omega) (by omega))
  unfold zf_X8_putOn at hf
  obtain ⟨-, hf⟩ := zo_n hf
  refine zl_aload_n hx hb zd_X8_putOn_0 rfl (lv_at hl 0 rfl) ?_
  refine zl_aload_n hx hb zd_X8_putOn_1 rfl (lv_at hl 1 rfl) ?_
  replace hf := zo_b hf; obtain ⟨a1, na1, hf⟩ := hf
  refine W.eq (g2 := F0 m 2 ls [va_rf ((some a1)), va_rf ((some q))]) (by rw [na1] <;> rfl) ?_
  replace hf := zo_b hf; obtain ⟨v2, ev2, hf⟩ := hf
  obtain ⟨u3, u3e, u3v⟩ := zo_b ev2
  obtain rfl := zv_r_e u3v
  refine zw_get S hK hw zk_3 (k := 3) (by decide) rfl zm_766 (Or.inl rfl) u3e zd_X8_putOn_2 ?_
  refine zl_aload_n hx hb zd_X8_putOn_5 rfl (lv_at hl 3 rfl) ?_
  replace hf := zo_b hf; obtain ⟨r4, er4, hf⟩ := hf
  refine zw_callV (n := 2) (ci := 8) (q := zc_cl[8]) (As := [va_rf (v2), va_rf (x3)]) (rest := []) S hK hw (zt_X8_layWay l g h q v2 x3 _ er4) zm_828 zm_715 zm_716 zq_X8_layWay zm_75 (by decide +kernel) ⟨Nat.le_of_ble_eq_true rfl, Nat.le_of_ble_eq_true rfl⟩ rfl rfl rfl (zi_X8_layWay er4) hl.1 rfl (by simp [zv_cat, zv_ci, zv_cj]) zd_X8_putOn_6 ⟨(by show 0 + (17 : Nat) ≤ (17 : Nat); omega), (by show 0 + (680 : Nat) ≤ (680 : Nat); omega)⟩ (fun H locs hw => ?_)
  replace hw : zc_W g r4.1 H locs := hw
  refine W.widen (k := (0 + 17)) (n := (0 + 680)) (Nat.le_refl _) (Nat.le_refl _) ?_
  refine lv_if_ne (tgt := 14) hx hb zd_X8_putOn_9 (by decide) (fun c5 => ?_) (fun c5 => ?_)
  · replace hf := zo_f c5 hf
    refine zl_aload_n hx hb zd_X8_putOn_14 rfl (lv_at hl 0 rfl) ?_
    refine zl_aload_n hx hb zd_X8_putOn_15 rfl (lv_at hl 1 rfl) ?_
    replace hf := zo_b hf; obtain ⟨r6, er6, hf⟩ := hf
    refine zw_callV (n := 1) (ci := 8) (q := zc_cl[8]) (As := [va_rf (x1)]) (rest := []) S hK hw (zt_X8_begin l g r4.1 q x1 _ er6) zm_829 zm_831 zm_15 zq_X8_begin zm_75 (by decide +kernel) ⟨Nat.le_of_ble_eq_true rfl, Nat.le_of_ble_eq_true rfl⟩ rfl rfl rfl (zi_X8_begin er6) hl.1 rfl (by simp [zv_cat, zv_ci, zv_cj]) zd_X8_putOn_16 ⟨(by show (0 + 17) + (0 : Nat) ≤ (17 : Nat); omega), (by show (0 + 680) + (0 : Nat) ≤ (680 : Nat); omega)⟩ (fun H locs hw => ?_)
    replace hw : zc_W g r6 H locs := hw
    refine W.widen (k := ((0 + 17) + 0)) (n := ((0 + 680) + 0)) (Nat.le_refl _) (Nat.le_refl _) ?_
    refine zl_aload_n hx hb zd_X8_putOn_19 rfl (lv_at hl 1 rfl) ?_
    refine W.eq (g2 := F0 m 20 ls [va_rf ((some a1))]) (by rw [na1] <;> rfl) ?_
    replace hf := zo_b hf; obtain ⟨v7, ev7, hf⟩ := hf
    obtain ⟨u8, u8e, u8v⟩ := zo_b ev7
    obtain rfl := zv_r_e u8v
    refine zw_get S hK hw zk_3 (k := 3) (by decide) rfl zm_766 (Or.inl rfl) u8e zd_X8_putOn_20 ?_
    refine zl_astore (i := 4) (lv' := [(4, va_rf (v7)), (0, va_rf ((some q))), (1, va_rf (x1)), (2, .int (x2)), (3, va_rf (x3))]) hx hb zd_X8_putOn_23 hl (by decide) (by simp [List.filter, zv_cat, zv_ci, zv_cj]) (fun ls hl => ?_)
    refine zl_aload_n hx hb zd_X8_putOn_25 rfl (lv_at hl 1 rfl) ?_
    replace hf := zo_b hf; obtain ⟨v9, ev9, hf⟩ := hf
    obtain ⟨u10, u10e, u10v⟩ := zo_b ev9
    obtain rfl := zv_r_e u10v
    refine zw_get S hK hw zk_8 (k := 1) (by decide) rfl zm_211 (Or.inl rfl) u10e zd_X8_putOn_26 ?_
    replace hf := zo_b hf; obtain ⟨a11, na11, hf⟩ := hf
    refine W.eq (g2 := F0 m 29 ls [va_rf ((some a11))]) (by rw [na11] <;> rfl) ?_
    replace hf := zo_b hf; obtain ⟨r12, er12, hf⟩ := hf
    refine zw_callV (n := 0) (ci := 11) (q := zc_cl[11]) (As := []) (rest := []) S hK hw (zt_Jx4a65c_size_8abf5 l g r6 a11 _ er12) zm_727 zm_425 zm_426 zq_Jx4a65c_size_8abf5 zm_72 (by decide +kernel) ⟨Nat.le_of_ble_eq_true rfl, Nat.le_of_ble_eq_true rfl⟩ rfl rfl rfl (zi_Jx4a65c_size_8abf5 er12) hl.1 rfl (by simp [zv_cat, zv_ci, zv_cj]) zd_X8_putOn_29 ⟨(by show ((0 + 17) + 0) + (0 : Nat) ≤ (17 : Nat); omega), (by show ((0 + 680) + 0) + (0 : Nat) ≤ (680 : Nat); omega)⟩ (fun H locs hw => ?_)
    replace hw : zc_W g r6 H locs := hw
    refine W.widen (k := (((0 + 17) + 0) + 0)) (n := (((0 + 680) + 0) + 0)) (Nat.le_refl _) (Nat.le_refl _) ?_
    refine lv_iconst (v := 2) hx hb zd_X8_putOn_32 (by decide) ?_
    refine lv_isub hx hb zd_X8_putOn_33 ?_
    refine lv_istore (i := 5) (lv' := [(5, .int ((r12 - 2))), (4, va_rf (v7)), (0, va_rf ((some q))), (1, va_rf (x1)), (2, .int (x2)), (3, va_rf (x3))]) hx hb zd_X8_putOn_34 hl (by decide) (by simp [List.filter, zv_cat, zv_ci, zv_cj]) (fun ls hl => ?_)
    replace hf := zo_b hf; obtain ⟨w20, w20e, hf⟩ := hf
    refine L36 x1 x2 17 r6 v7 (r12 - 2) _ _ _ _ _ _ (by omega) (by omega) w20e hw (lv_sub hl [2, 3, 4, 1, 0] rfl) (fun H locs ls cl21 sl22 hcl21 hsl22 hw hl => ?_)
    refine lv_iconst (v := 1) hx hb zd_X8_putOn_75 (by decide) ?_
    have hres := Option.some.inj hf; subst hres
    exact zw_iret (v := 1) (ty := .boolean) hx hb hr hlk rfl hw zd_X8_putOn_76 (by show _ ≤ (17 : Nat); omega) (by show _ ≤ (680 : Nat); omega)
  · replace hf := zo_t c5 hf
    refine lv_iconst (v := 0) hx hb zd_X8_putOn_12 (by decide) ?_
    have hres := Option.some.inj hf; subst hres
    exact zw_iret (v := 0) (ty := .boolean) hx hb hr hlk rfl hw zd_X8_putOn_13 (by show _ ≤ (17 : Nat); omega) (by show _ ≤ (680 : Nat); omega)
def zf_X7_take_L20 (q : Nat) (y1 : Option Nat) : Nat → zc_H → Int32 → Option (zc_H)
  | 0, _, _ => none
  | n + 1, h, y2 =>
    (zf_gr h q 7 0).bind fun v6 =>
    v6.bind fun a8 =>
    (zf_gr h a8 6 1).bind fun v9 =>
    v9.bind fun a11 =>
    (zf_Jx4a65c_size_8abf5 h a11).bind fun r12 =>
    if r12 ≤ y2 then
      some h
    else
    (zf_gr h q 7 2).bind fun v14 =>
    v14.bind fun a16 =>
    (zf_len h a16).bind fun v17 =>
    if v17 ≤ y2 then
      some h
    else
    (zf_gr h q 7 0).bind fun v19 =>
    v19.bind fun a21 =>
    (zf_gr h a21 6 1).bind fun v22 =>
    v22.bind fun a24 =>
    (zf_Jx4a65c_get_915e3 h a24 y2).bind fun r25 =>
    if ¬ zf_cc h r25 3 = true then none else
    (zf_gr h q 7 1).bind fun v27 =>
    r25.bind fun a29 =>
    (zf_gi h a29 3 1).bind fun v30 =>
    v27.bind fun a32 =>
    (zf_X8_putOn h a32 r25 v30 y1).bind fun r33 =>
    let k128 := fun (h128j : zc_H) =>
      zf_X7_take_L20 q y1 n h128j (y2 + 1)
    if r33.2 = 0 then
      k128 r33.1
    else
    (zf_gr r33.1 q 7 2).bind fun v35 =>
    (zf_gr r33.1 q 7 1).bind fun v37 =>
    v37.bind fun a39 =>
    (zf_gi r33.1 a39 8 2).bind fun v40 =>
    v35.bind fun a42 =>
    (zf_si r33.1 a42 0 y2 v40).bind fun h43 =>
    (zf_gr h43 q 7 1).bind fun v44 =>
    v44.bind fun a46 =>
    (zf_gi h43 a46 8 2).bind fun v47 =>
    if v47 = (-1) then
      (zf_gi h43 q 7 4).bind fun v53 =>
      (zf_p h43 q 7 4 (.int ((v53 ||| (1 <<< (y2 &&& 31)))))).bind fun h55 =>
      k128 h55
    else
    (zf_gi h43 q 7 3).bind fun v50 =>
    (zf_p h43 q 7 3 (.int ((v50 ||| (1 <<< (y2 &&& 31)))))).bind fun h52 =>
    k128 h52
def zf_X7_take (h : zc_H) (q : Nat) (x1 : Option Nat) : Option (zc_H) :=
  if ¬ zf_is h q 7 = true then none else
  (zf_gr h q 7 2).bind fun v1 =>
  (zf_J7_fill_53178 h v1 (-1)).bind fun r3 =>
  (zf_p r3 q 7 3 (.int (0))).bind fun h4 =>
  (zf_p h4 q 7 4 (.int (0))).bind fun h5 =>
  (zf_X7_take_L20 q x1 17 h5 0).bind fun w56 =>
  some w56
abbrev zr_X7_take : Room := { frames := 10, cells := 289, slots := 11560, locals := 277 }
theorem zi_X7_take {h : zc_H} {q : Nat} {x1 : Option Nat} {res : zc_H} (hf : zf_X7_take h q x1 = some res) : zf_is h q 7 = true := Decidable.not_not.mp (zo_n hf).1
set_option maxHeartbeats 4000000 in
set_option maxRecDepth 20000 in
theorem zt_X7_take (l : Launch) (g : zc_G) (h : zc_H) (q : Nat) (x1 : Option Nat) (res : zc_H) (hf : zf_X7_take h q x1 = some res) : zc_M l g yX7_take cX7_take 4 none zr_X7_take h [va_rf ((some q)), va_rf (x1)] res none := by
  refine zc_M.of (by decide) (by simp [lg_sl, zv_cat, zv_ci, zv_cj]) ?_
  intro p e s m below meth c ls S hK hw hr hlk hnm hl
  replace S : CallFix p m c cX7_take 4 s [va_rf ((some q)), va_rf (x1)].toArray (zc_ws yX7_take cX7_take 4 none) RX7 := S
  have hx := S.1
  have hb := S.2.1
  replace hl : lv_has ls 4 [(0, va_rf ((some q))), (1, va_rf (x1))] := by simpa [lv_args, zv_cat, zv_ci, zv_cj] using hl
  generalize s.heap = H at hw ⊢
  obtain ⟨locs, hlocs⟩ : ∃ L : List Loc, L = [] := ⟨_, rfl⟩
  rw [← hlocs] at hw ⊢
  have L20 : ∀ (y1 : Option Nat) (n : Nat) (h : zc_H) (y2 : Int32) (w : zc_H) (H : Heap) (locs : List Loc) (ls : Array Slot) (cl sl : Nat), cl + n * 17 ≤ 289 → sl + n * 680 ≤ 11560 → zf_X7_take_L20 q y1 n h y2 = some w → zc_W g h H locs → lv_has ls 4 [(0, va_rf ((some q))), (1, va_rf (y1)), (2, .int (y2))] → (∀ (H : Heap) (locs : List Loc) (ls : Array Slot) (cl1 sl1 : Nat), cl1 ≤ cl + n * 17 → sl1 ≤ sl + n * 680 → zc_W g w H locs → lv_has ls 4 [] → W p l e zr_X7_take s m [va_rf ((some q)), va_rf (x1)].toArray below meth c H locs cl1 sl1 (zc_Q g below zr_X7_take none res [va_rf ((some q)), va_rf (x1)] s) (F0 m 134 ls [])) → W p l e zr_X7_take s m [va_rf ((some q)), va_rf (x1)].toArray below meth c H locs cl sl (zc_Q g below zr_X7_take none res [va_rf ((some q)), va_rf (x1)] s) (F0 m 20 ls []) := by
    intro y1 n
    induction n with
    | zero =>
      intro h y2 w H locs ls cl sl hcl hsl hf
      cases hf
    | succ n ih =>
      intro h y2 w H locs ls cl sl hcl hsl hf hw hl  kk
      unfold zf_X7_take_L20 at hf
      refine lv_iload_n hx hb zd_X7_take_20 rfl (lv_at hl 2 rfl) ?_
      refine zl_aload_n hx hb zd_X7_take_21 rfl (lv_at hl 0 rfl) ?_
      replace hf := zo_b hf; obtain ⟨v6, ev6, hf⟩ := hf
      obtain ⟨u7, u7e, u7v⟩ := zo_b ev6
      obtain rfl := zv_r_e u7v
      refine zw_get S hK hw zk_7 (k := 0) (by decide) rfl zm_248 (Or.inl rfl) u7e zd_X7_take_22 ?_
      replace hf := zo_b hf; obtain ⟨a8, na8, hf⟩ := hf
      refine W.eq (g2 := F0 m 25 ls [va_rf ((some a8)), .int (y2)]) (by rw [na8] <;> rfl) ?_
      replace hf := zo_b hf; obtain ⟨v9, ev9, hf⟩ := hf
      obtain ⟨u10, u10e, u10v⟩ := zo_b ev9
      obtain rfl := zv_r_e u10v
      refine zw_get S hK hw zk_6 (k := 1) (by decide) rfl zm_134 (Or.inl rfl) u10e zd_X7_take_25 ?_
      replace hf := zo_b hf; obtain ⟨a11, na11, hf⟩ := hf
      refine W.eq (g2 := F0 m 28 ls [va_rf ((some a11)), .int (y2)]) (by rw [na11] <;> rfl) ?_
      replace hf := zo_b hf; obtain ⟨r12, er12, hf⟩ := hf
      refine zw_callV (n := 0) (ci := 11) (q := zc_cl[11]) (As := []) (rest := [.int (y2)]) S hK hw (zt_Jx4a65c_size_8abf5 l g h a11 _ er12) zm_920 zm_425 zm_426 zq_Jx4a65c_size_8abf5 zm_72 (by decide +kernel) ⟨Nat.le_of_ble_eq_true rfl, Nat.le_of_ble_eq_true rfl⟩ rfl rfl rfl (zi_Jx4a65c_size_8abf5 er12) hl.1 rfl (by simp [zv_cat, zv_ci, zv_cj]) zd_X7_take_28 ⟨(by show cl + (0 : Nat) ≤ (289 : Nat); omega), (by show sl + (0 : Nat) ≤ (11560 : Nat); omega)⟩ (fun H locs hw => ?_)
      replace hw : zc_W g h H locs := hw
      refine W.widen (k := (cl + 0)) (n := (sl + 0)) (Nat.le_refl _) (Nat.le_refl _) ?_
      refine lv_icmp_ge (tgt := 134) hx hb zd_X7_take_31 (by decide) (fun c13 => ?_) (fun c13 => ?_)
      · replace hf := zo_t c13 hf
        have hres := Option.some.inj hf; subst hres
        exact kk _ _ _ _ _ (by omega) (by omega) hw (lv_sub hl [] rfl)
      · replace hf := zo_f c13 hf
        refine lv_iload_n hx hb zd_X7_take_34 rfl (lv_at hl 2 rfl) ?_
        refine zl_aload_n hx hb zd_X7_take_35 rfl (lv_at hl 0 rfl) ?_
        replace hf := zo_b hf; obtain ⟨v14, ev14, hf⟩ := hf
        obtain ⟨u15, u15e, u15v⟩ := zo_b ev14
        obtain rfl := zv_r_e u15v
        refine zw_get S hK hw zk_7 (k := 2) (by decide) rfl zm_250 (Or.inl rfl) u15e zd_X7_take_36 ?_
        replace hf := zo_b hf; obtain ⟨a16, na16, hf⟩ := hf
        refine W.eq (g2 := F0 m 39 ls [va_rf ((some a16)), .int (y2)]) (by rw [na16] <;> rfl) ?_
        replace hf := zo_b hf; obtain ⟨v17, ev17, hf⟩ := hf
        refine zw_alen S hK hw ev17 zd_X7_take_39 ?_
        refine lv_icmp_ge (tgt := 134) hx hb zd_X7_take_40 (by decide) (fun c18 => ?_) (fun c18 => ?_)
        · replace hf := zo_t c18 hf
          have hres := Option.some.inj hf; subst hres
          exact kk _ _ _ _ _ (by omega) (by omega) hw (lv_sub hl [] rfl)
        · replace hf := zo_f c18 hf
          refine zl_aload_n hx hb zd_X7_take_43 rfl (lv_at hl 0 rfl) ?_
          replace hf := zo_b hf; obtain ⟨v19, ev19, hf⟩ := hf
          obtain ⟨u20, u20e, u20v⟩ := zo_b ev19
          obtain rfl := zv_r_e u20v
          refine zw_get S hK hw zk_7 (k := 0) (by decide) rfl zm_248 (Or.inl rfl) u20e zd_X7_take_44 ?_
          replace hf := zo_b hf; obtain ⟨a21, na21, hf⟩ := hf
          refine W.eq (g2 := F0 m 47 ls [va_rf ((some a21))]) (by rw [na21] <;> rfl) ?_
          replace hf := zo_b hf; obtain ⟨v22, ev22, hf⟩ := hf
          obtain ⟨u23, u23e, u23v⟩ := zo_b ev22
          obtain rfl := zv_r_e u23v
          refine zw_get S hK hw zk_6 (k := 1) (by decide) rfl zm_134 (Or.inl rfl) u23e zd_X7_take_47 ?_
          refine lv_iload_n hx hb zd_X7_take_50 rfl (lv_at hl 2 rfl) ?_
          replace hf := zo_b hf; obtain ⟨a24, na24, hf⟩ := hf
          refine W.eq (g2 := F0 m 51 ls [.int (y2), va_rf ((some a24))]) (by rw [na24] <;> rfl) ?_
          replace hf := zo_b hf; obtain ⟨r25, er25, hf⟩ := hf
          refine zw_callV (n := 1) (ci := 11) (q := zc_cl[11]) (As := [.int (y2)]) (rest := []) S hK hw (zt_Jx4a65c_get_915e3 l g h a24 y2 _ er25) zm_921 zm_429 zm_430 zq_Jx4a65c_get_915e3 zm_72 (by decide +kernel) ⟨Nat.le_of_ble_eq_true rfl, Nat.le_of_ble_eq_true rfl⟩ rfl rfl rfl (zi_Jx4a65c_get_915e3 er25) hl.1 rfl (by simp [zv_cat, zv_ci, zv_cj]) zd_X7_take_51 ⟨(by show (cl + 0) + (0 : Nat) ≤ (289 : Nat); omega), (by show (sl + 0) + (0 : Nat) ≤ (11560 : Nat); omega)⟩ (fun H locs hw => ?_)
          replace hw : zc_W g h H locs := hw
          refine W.widen (k := ((cl + 0) + 0)) (n := ((sl + 0) + 0)) (Nat.le_refl _) (Nat.le_refl _) ?_
          replace hf := zo_n hf; obtain ⟨z26, hf⟩ := hf
          refine zw_cast (q := zc_cl[3]) S hK hw zm_922 rfl rfl (Decidable.not_not.mp z26) zd_X7_take_54 ?_
          refine zl_astore_n (i := 3) (lv' := [(3, va_rf (r25)), (0, va_rf ((some q))), (1, va_rf (y1)), (2, .int (y2))]) hx hb zd_X7_take_57 rfl hl (by decide) rfl (fun ls hl => ?_)
          refine zl_aload_n hx hb zd_X7_take_58 rfl (lv_at hl 1 rfl) ?_
          replace hf := zo_b hf; obtain ⟨v27, ev27, hf⟩ := hf
          obtain ⟨u28, u28e, u28v⟩ := zo_b ev27
          obtain rfl := zv_r_e u28v
          refine zw_get S hK hw zk_7 (k := 1) (by decide) rfl zm_249 (Or.inl rfl) u28e zd_X7_take_59 ?_
          refine zl_aload_n hx hb zd_X7_take_62 rfl (lv_at hl 0 rfl) ?_
          refine zl_aload_n hx hb zd_X7_take_63 rfl (lv_at hl 0 rfl) ?_
          replace hf := zo_b hf; obtain ⟨a29, na29, hf⟩ := hf
          refine W.eq (g2 := F0 m 64 ls [va_rf ((some a29)), va_rf (r25), va_rf (v27)]) (by rw [na29] <;> rfl) ?_
          replace hf := zo_b hf; obtain ⟨v30, ev30, hf⟩ := hf
          obtain ⟨u31, u31e, u31v⟩ := zo_b ev30
          obtain rfl := zv_i_e u31v
          refine zw_get S hK hw zk_3 (k := 1) (by decide) rfl zm_758 (Or.inl rfl) u31e zd_X7_take_64 ?_
          refine zl_aload_n hx hb zd_X7_take_67 rfl (lv_at hl 2 rfl) ?_
          replace hf := zo_b hf; obtain ⟨a32, na32, hf⟩ := hf
          refine W.eq (g2 := F0 m 68 ls [va_rf (y1), .int (v30), va_rf (r25), va_rf ((some a32))]) (by rw [na32] <;> rfl) ?_
          replace hf := zo_b hf; obtain ⟨r33, er33, hf⟩ := hf
          refine zw_callV (n := 3) (ci := 8) (q := zc_cl[8]) (As := [va_rf (r25), .int (v30), va_rf (y1)]) (rest := []) S hK hw (zt_X8_putOn l g h a32 r25 v30 y1 _ er33) zm_923 zm_825 zm_826 zq_X8_putOn zm_75 (by decide +kernel) ⟨Nat.le_of_ble_eq_true rfl, Nat.le_of_ble_eq_true rfl⟩ rfl rfl rfl (zi_X8_putOn er33) hl.1 rfl (by simp [zv_cat, zv_ci, zv_cj]) zd_X7_take_68 ⟨(by show ((cl + 0) + 0) + (17 : Nat) ≤ (289 : Nat); omega), (by show ((sl + 0) + 0) + (680 : Nat) ≤ (11560 : Nat); omega)⟩ (fun H locs hw => ?_)
          replace hw : zc_W g r33.1 H locs := hw
          refine W.widen (k := (((cl + 0) + 0) + 17)) (n := (((sl + 0) + 0) + 680)) (Nat.le_refl _) (Nat.le_refl _) ?_
          have k128h : ∀ (h128j : zc_H) (H : Heap) (locs : List Loc) (ls : Array Slot), (
              zf_X7_take_L20 q y1 n h128j (y2 + 1)
              ) = some w → zc_W g h128j H locs → lv_has ls 4 [(0, va_rf ((some q))), (1, va_rf (y1)), (2, .int (y2))] → W p l e zr_X7_take s m [va_rf ((some q)), va_rf (x1)].toArray below meth c H locs (((cl + 0) + 0) + 17) (((sl + 0) + 0) + 680) (zc_Q g below zr_X7_take none res [va_rf ((some q)), va_rf (x1)] s) (F0 m 128 ls []) := by
            intro h128j H locs ls hf hw hl
            refine lv_iinc (i := 2) (v := (y2 + 1)) (lv' := [(2, .int ((y2 + 1))), (0, va_rf ((some q))), (1, va_rf (y1))]) hx hb zd_X7_take_128 hl (k := 2) rfl (congrArg (_ + ·) (by decide)) (by decide) (by simp [List.filter, zv_cat, zv_ci, zv_cj]) (fun ls hl => ?_)
            refine lv_goto (tgt := 20) hx hb zd_X7_take_131 (by decide) ?_
            exact ih h128j (y2 + 1) _ _ _ _ _ _ (by omega) (by omega) hf hw (lv_sub hl [1, 2, 0] rfl) (fun H locs ls cl1 sl1 h1 h2 => kk H locs ls cl1 sl1 (by omega) (by omega))
          refine lv_if_ne (tgt := 77) hx hb zd_X7_take_71 (by decide) (fun c34 => ?_) (fun c34 => ?_)
          · replace hf := zo_f c34 hf
            refine zl_aload_n hx hb zd_X7_take_77 rfl (lv_at hl 1 rfl) ?_
            replace hf := zo_b hf; obtain ⟨v35, ev35, hf⟩ := hf
            obtain ⟨u36, u36e, u36v⟩ := zo_b ev35
            obtain rfl := zv_r_e u36v
            refine zw_get S hK hw zk_7 (k := 2) (by decide) rfl zm_250 (Or.inl rfl) u36e zd_X7_take_78 ?_
            refine lv_iload_n hx hb zd_X7_take_81 rfl (lv_at hl 3 rfl) ?_
            refine zl_aload_n hx hb zd_X7_take_82 rfl (lv_at hl 1 rfl) ?_
            replace hf := zo_b hf; obtain ⟨v37, ev37, hf⟩ := hf
            obtain ⟨u38, u38e, u38v⟩ := zo_b ev37
            obtain rfl := zv_r_e u38v
            refine zw_get S hK hw zk_7 (k := 1) (by decide) rfl zm_249 (Or.inl rfl) u38e zd_X7_take_83 ?_
            replace hf := zo_b hf; obtain ⟨a39, na39, hf⟩ := hf
            refine W.eq (g2 := F0 m 86 ls [va_rf ((some a39)), .int (y2), va_rf (v35)]) (by rw [na39] <;> rfl) ?_
            replace hf := zo_b hf; obtain ⟨v40, ev40, hf⟩ := hf
            obtain ⟨u41, u41e, u41v⟩ := zo_b ev40
            obtain rfl := zv_i_e u41v
            refine zw_get S hK hw zk_8 (k := 2) (by decide) rfl zm_213 (Or.inl rfl) u41e zd_X7_take_86 ?_
            replace hf := zo_b hf; obtain ⟨a42, na42, hf⟩ := hf
            refine W.eq (g2 := F0 m 89 ls [.int (v40), .int (y2), va_rf ((some a42))]) (by rw [na42] <;> rfl) ?_
            replace hf := zo_b hf; obtain ⟨h43, eh43, hf⟩ := hf
            refine zw_iast S hK hw eh43 zd_X7_take_89 (fun H locs hw => ?_)
            refine zl_aload_n hx hb zd_X7_take_90 rfl (lv_at hl 1 rfl) ?_
            replace hf := zo_b hf; obtain ⟨v44, ev44, hf⟩ := hf
            obtain ⟨u45, u45e, u45v⟩ := zo_b ev44
            obtain rfl := zv_r_e u45v
            refine zw_get S hK hw zk_7 (k := 1) (by decide) rfl zm_249 (Or.inl rfl) u45e zd_X7_take_91 ?_
            replace hf := zo_b hf; obtain ⟨a46, na46, hf⟩ := hf
            refine W.eq (g2 := F0 m 94 ls [va_rf ((some a46))]) (by rw [na46] <;> rfl) ?_
            replace hf := zo_b hf; obtain ⟨v47, ev47, hf⟩ := hf
            obtain ⟨u48, u48e, u48v⟩ := zo_b ev47
            obtain rfl := zv_i_e u48v
            refine zw_get S hK hw zk_8 (k := 2) (by decide) rfl zm_213 (Or.inl rfl) u48e zd_X7_take_94 ?_
            refine lv_iconst (v := (-1)) hx hb zd_X7_take_97 (by decide) ?_
            refine lv_icmp_ne (tgt := 116) hx hb zd_X7_take_98 (by decide) (fun c49 => ?_) (fun c49 => ?_)
            · replace hf := zo_f c49 hf
              refine zl_aload_n hx hb zd_X7_take_116 rfl (lv_at hl 1 rfl) ?_
              refine lv_dup hx hb zd_X7_take_117 rfl ?_
              replace hf := zo_b hf; obtain ⟨v50, ev50, hf⟩ := hf
              obtain ⟨u51, u51e, u51v⟩ := zo_b ev50
              obtain rfl := zv_i_e u51v
              refine zw_get S hK hw zk_7 (k := 3) (by decide) rfl zm_251 (Or.inl rfl) u51e zd_X7_take_118 ?_
              refine lv_iconst (v := 1) hx hb zd_X7_take_121 (by decide) ?_
              refine lv_iload_n hx hb zd_X7_take_122 rfl (lv_at hl 3 rfl) ?_
              refine lv_ishl hx hb zd_X7_take_123 ?_
              refine lv_ior hx hb zd_X7_take_124 ?_
              replace hf := zo_b hf; obtain ⟨h52, eh52, hf⟩ := hf
              refine zw_put S hK hw zk_7 (k := 3) (by decide) rfl zm_251 (Or.inl rfl) eh52 (ty := .int) (by decide +kernel) rfl rfl zd_X7_take_125 (fun H locs hw => ?_)
              exact k128h h52 _ _ _ hf hw (lv_sub hl [1, 2, 3] rfl)
            · replace hf := zo_t c49 hf
              refine zl_aload_n hx hb zd_X7_take_101 rfl (lv_at hl 1 rfl) ?_
              refine lv_dup hx hb zd_X7_take_102 rfl ?_
              replace hf := zo_b hf; obtain ⟨v53, ev53, hf⟩ := hf
              obtain ⟨u54, u54e, u54v⟩ := zo_b ev53
              obtain rfl := zv_i_e u54v
              refine zw_get S hK hw zk_7 (k := 4) (by decide) rfl zm_253 (Or.inl rfl) u54e zd_X7_take_103 ?_
              refine lv_iconst (v := 1) hx hb zd_X7_take_106 (by decide) ?_
              refine lv_iload_n hx hb zd_X7_take_107 rfl (lv_at hl 3 rfl) ?_
              refine lv_ishl hx hb zd_X7_take_108 ?_
              refine lv_ior hx hb zd_X7_take_109 ?_
              replace hf := zo_b hf; obtain ⟨h55, eh55, hf⟩ := hf
              refine zw_put S hK hw zk_7 (k := 4) (by decide) rfl zm_253 (Or.inl rfl) eh55 (ty := .int) (by decide +kernel) rfl rfl zd_X7_take_110 (fun H locs hw => ?_)
              refine lv_goto (tgt := 128) hx hb zd_X7_take_113 (by decide) ?_
              exact k128h h55 _ _ _ hf hw (lv_sub hl [1, 2, 3] rfl)
          · replace hf := zo_t c34 hf
            refine lv_goto (tgt := 128) hx hb zd_X7_take_74 (by decide) ?_
            exact k128h r33.1 _ _ _ hf hw (lv_sub hl [1, 2, 3] rfl)
  unfold zf_X7_take at hf
  obtain ⟨-, hf⟩ := zo_n hf
  refine zl_aload_n hx hb zd_X7_take_0 rfl (lv_at hl 0 rfl) ?_
  replace hf := zo_b hf; obtain ⟨v1, ev1, hf⟩ := hf
  obtain ⟨u2, u2e, u2v⟩ := zo_b ev1
  obtain rfl := zv_r_e u2v
  refine zw_get S hK hw zk_7 (k := 2) (by decide) rfl zm_250 (Or.inl rfl) u2e zd_X7_take_1 ?_
  refine lv_iconst (v := (-1)) hx hb zd_X7_take_4 (by decide) ?_
  replace hf := zo_b hf; obtain ⟨r3, er3, hf⟩ := hf
  refine zw_callS (n := 2) (As := [va_rf (v1), .int ((-1))]) (rest := []) S hK hw (zt_J7_fill_53178 l g h v1 (-1) _ er3) zm_919 zm_611 zq_J7_fill_53178 zm_80 (by decide +kernel) ⟨Nat.le_of_ble_eq_true rfl, Nat.le_of_ble_eq_true rfl⟩ rfl hl.1 rfl (by simp [zv_cat, zv_ci, zv_cj]) zd_X7_take_5 ⟨(by show 0 + (0 : Nat) ≤ (289 : Nat); omega), (by show 0 + (0 : Nat) ≤ (11560 : Nat); omega)⟩ (fun H locs hw => ?_)
  replace hw : zc_W g r3 H locs := hw
  refine W.widen (k := (0 + 0)) (n := (0 + 0)) (Nat.le_refl _) (Nat.le_refl _) ?_
  refine zl_aload_n hx hb zd_X7_take_8 rfl (lv_at hl 0 rfl) ?_
  refine lv_iconst (v := 0) hx hb zd_X7_take_9 (by decide) ?_
  replace hf := zo_b hf; obtain ⟨h4, eh4, hf⟩ := hf
  refine zw_put S hK hw zk_7 (k := 3) (by decide) rfl zm_251 (Or.inl rfl) eh4 (ty := .int) (by decide +kernel) rfl rfl zd_X7_take_10 (fun H locs hw => ?_)
  refine zl_aload_n hx hb zd_X7_take_13 rfl (lv_at hl 0 rfl) ?_
  refine lv_iconst (v := 0) hx hb zd_X7_take_14 (by decide) ?_
  replace hf := zo_b hf; obtain ⟨h5, eh5, hf⟩ := hf
  refine zw_put S hK hw zk_7 (k := 4) (by decide) rfl zm_253 (Or.inl rfl) eh5 (ty := .int) (by decide +kernel) rfl rfl zd_X7_take_15 (fun H locs hw => ?_)
  refine lv_iconst (v := 0) hx hb zd_X7_take_18 (by decide) ?_
  refine lv_istore_n (i := 2) (lv' := [(2, .int (0)), (0, va_rf ((some q))), (1, va_rf (x1))]) hx hb zd_X7_take_19 rfl hl (by decide) (by simp [List.filter, zv_cat, zv_ci, zv_cj]) (fun ls hl => ?_)
  replace hf := zo_b hf; obtain ⟨w56, w56e, hf⟩ := hf
  refine L20 x1 17 h5 0 _ _ _ _ _ _ (by omega) (by omega) w56e hw (lv_sub hl [1, 2, 0] rfl) (fun H locs ls cl57 sl58 hcl57 hsl58 hw hl => ?_)
  have hres := Option.some.inj hf; subst hres
  exact zw_vret hx hb hr hlk hw zd_X7_take_134 (by show _ ≤ (289 : Nat); omega) (by show _ ≤ (11560 : Nat); omega)
