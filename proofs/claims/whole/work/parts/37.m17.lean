def zf_X9_settle (h : zc_H) (q : Nat) (x1 : Int32) (x2 : Int32) : Option (zc_H × Int32) :=
  if ¬ zf_is h q 9 = true then none else
  (zf_gr h q 9 1).bind fun v1 =>
  v1.bind fun a3 =>
  (zf_X6_remarkAt h a3 x1).bind fun r4 =>
  if r4 = none then
    (zf_X9_refuse h q (-1)).bind fun r26 =>
    some (r26.1, r26.2)
  else
  (zf_gr h q 9 1).bind fun v6 =>
  v6.bind fun a8 =>
  (zf_X6_isSettled h a8 x1).bind fun r9 =>
  let k33 := fun (s33_0 : Int32) =>
    (zf_gr h q 9 1).bind fun v11 =>
    let k69 := fun (s69_0 : Int32) (s69_1 : Option Nat) =>
      s69_1.bind fun a14 =>
      (zf_p h a14 6 2 (.int (s69_0))).bind fun h15 =>
      some (h15, s33_0)
    if x2 = 0 then
      (zf_gr h q 9 1).bind fun v16 =>
      v16.bind fun a18 =>
      (zf_gi h a18 6 2).bind fun v19 =>
      k69 (v19 &&& ((1 <<< (x1 &&& 31)) ^^^ (-1))) v11
    else
    (zf_gr h q 9 1).bind fun v21 =>
    v21.bind fun a23 =>
    (zf_gi h a23 6 2).bind fun v24 =>
    k69 (v24 ||| (1 <<< (x1 &&& 31))) v11
  if r9 = 0 then
    k33 0
  else
  k33 1
abbrev zr_X9_settle : Room := { frames := 4, cells := 0, slots := 0, locals := 85 }
theorem zi_X9_settle {h : zc_H} {q : Nat} {x1 : Int32} {x2 : Int32} {res : zc_H × Int32} (hf : zf_X9_settle h q x1 x2 = some res) : zf_is h q 9 = true := Decidable.not_not.mp (zo_n hf).1
set_option maxHeartbeats 4000000 in
set_option maxRecDepth 20000 in
theorem zt_X9_settle (l : Launch) (g : zc_G) (h : zc_H) (q : Nat) (x1 : Int32) (x2 : Int32) (res : zc_H × Int32) (hf : zf_X9_settle h q x1 x2 = some res) : zc_M l g yX9_settle cX9_settle 4 (some .int) zr_X9_settle h [va_rf ((some q)), .int (x1), .int (x2)] res.1 (some (.int (res.2))) := by
  refine zc_M.of (by decide) (by simp [lg_sl, zv_cat, zv_ci, zv_cj]) ?_
  intro p e s m below meth c ls S hK hw hr hlk hnm hl
  replace S : CallFix p m c cX9_settle 4 s [va_rf ((some q)), .int (x1), .int (x2)].toArray (zc_ws yX9_settle cX9_settle 4 (some .int)) RX9 := S
  have hx := S.1
  have hb := S.2.1
  replace hl : lv_has ls 4 [(0, va_rf ((some q))), (1, .int (x1)), (2, .int (x2))] := by simpa [lv_args, zv_cat, zv_ci, zv_cj] using hl
  generalize s.heap = H at hw ⊢
  obtain ⟨locs, hlocs⟩ : ∃ L : List Loc, L = [] := ⟨_, rfl⟩
  rw [← hlocs] at hw ⊢
  unfold zf_X9_settle at hf
  obtain ⟨-, hf⟩ := zo_n hf
  refine zl_aload_n hx hb zd_X9_settle_0 rfl (lv_at hl 0 rfl) ?_
  replace hf := zo_b hf; obtain ⟨v1, ev1, hf⟩ := hf
  obtain ⟨u2, u2e, u2v⟩ := zo_b ev1
  obtain rfl := zv_r_e u2v
  refine zw_get S hK hw zk_9 (k := 1) (by decide) rfl zm_308 (Or.inl rfl) u2e zd_X9_settle_1 ?_
  refine lv_iload_n hx hb zd_X9_settle_4 rfl (lv_at hl 1 rfl) ?_
  replace hf := zo_b hf; obtain ⟨a3, na3, hf⟩ := hf
  refine W.eq (g2 := F0 m 5 ls [.int (x1), va_rf ((some a3))]) (by rw [na3] <;> rfl) ?_
  replace hf := zo_b hf; obtain ⟨r4, er4, hf⟩ := hf
  refine zw_callV (n := 1) (ci := 6) (q := zc_cl[6]) (As := [.int (x1)]) (rest := []) S hK hw (zt_X6_remarkAt l g h a3 x1 _ er4) zm_420 zm_421 zm_422 zq_X6_remarkAt zm_69 (by decide +kernel) ⟨Nat.le_of_ble_eq_true rfl, Nat.le_of_ble_eq_true rfl⟩ rfl rfl rfl (zi_X6_remarkAt er4) hl.1 rfl (by simp [zv_cat, zv_ci, zv_cj]) zd_X9_settle_5 ⟨(Nat.le_refl 0), (Nat.le_refl 0)⟩ (fun H locs hw => ?_)
  replace hw : zc_W g h H locs := hw
  refine zl_ifnonnull (tgt := 17) hx hb zd_X9_settle_8 (by decide) (fun c5 => ?_) (fun c5 => ?_)
  · replace hf := zo_f c5 hf
    refine zl_aload_n hx hb zd_X9_settle_17 rfl (lv_at hl 0 rfl) ?_
    replace hf := zo_b hf; obtain ⟨v6, ev6, hf⟩ := hf
    obtain ⟨u7, u7e, u7v⟩ := zo_b ev6
    obtain rfl := zv_r_e u7v
    refine zw_get S hK hw zk_9 (k := 1) (by decide) rfl zm_308 (Or.inl rfl) u7e zd_X9_settle_18 ?_
    refine lv_iload_n hx hb zd_X9_settle_21 rfl (lv_at hl 1 rfl) ?_
    replace hf := zo_b hf; obtain ⟨a8, na8, hf⟩ := hf
    refine W.eq (g2 := F0 m 22 ls [.int (x1), va_rf ((some a8))]) (by rw [na8] <;> rfl) ?_
    replace hf := zo_b hf; obtain ⟨r9, er9, hf⟩ := hf
    refine zw_callV (n := 1) (ci := 6) (q := zc_cl[6]) (As := [.int (x1)]) (rest := []) S hK hw (zt_X6_isSettled l g h a8 x1 _ er9) zm_792 zm_793 zm_794 zq_X6_isSettled zm_69 (by decide +kernel) ⟨Nat.le_of_ble_eq_true rfl, Nat.le_of_ble_eq_true rfl⟩ rfl rfl rfl (zi_X6_isSettled er9) hl.1 rfl (by simp [zv_cat, zv_ci, zv_cj]) zd_X9_settle_22 ⟨(Nat.le_refl 0), (Nat.le_refl 0)⟩ (fun H locs hw => ?_)
    replace hw : zc_W g h H locs := hw
    have k33h : ∀ (s33_0 : Int32) (H : Heap) (locs : List Loc) (ls : Array Slot), (
        (zf_gr h q 9 1).bind fun v11 =>
        let k69 := fun (s69_0 : Int32) (s69_1 : Option Nat) =>
          s69_1.bind fun a14 =>
          (zf_p h a14 6 2 (.int (s69_0))).bind fun h15 =>
          some (h15, s33_0)
        if x2 = 0 then
          (zf_gr h q 9 1).bind fun v16 =>
          v16.bind fun a18 =>
          (zf_gi h a18 6 2).bind fun v19 =>
          k69 (v19 &&& ((1 <<< (x1 &&& 31)) ^^^ (-1))) v11
        else
        (zf_gr h q 9 1).bind fun v21 =>
        v21.bind fun a23 =>
        (zf_gi h a23 6 2).bind fun v24 =>
        k69 (v24 ||| (1 <<< (x1 &&& 31))) v11
        ) = some res → zc_W g h H locs → lv_has ls 4 [(0, va_rf ((some q))), (1, .int (x1)), (2, .int (x2))] → W p l e zr_X9_settle s m [va_rf ((some q)), .int (x1), .int (x2)].toArray below meth c H locs ((0 + 0) + 0) ((0 + 0) + 0) (zc_Q g below zr_X9_settle (some (.int (res.2))) res.1 [va_rf ((some q)), .int (x1), .int (x2)] s) (F0 m 33 ls [.int (s33_0)]) := by
      intro s33_0 H locs ls hf hw hl
      refine lv_istore_n (i := 3) (lv' := [(3, .int (s33_0)), (0, va_rf ((some q))), (1, .int (x1)), (2, .int (x2))]) hx hb zd_X9_settle_33 rfl hl (by decide) rfl (fun ls hl => ?_)
      refine zl_aload_n hx hb zd_X9_settle_34 rfl (lv_at hl 1 rfl) ?_
      replace hf := zo_b hf; obtain ⟨v11, ev11, hf⟩ := hf
      obtain ⟨u12, u12e, u12v⟩ := zo_b ev11
      obtain rfl := zv_r_e u12v
      refine zw_get S hK hw zk_9 (k := 1) (by decide) rfl zm_308 (Or.inl rfl) u12e zd_X9_settle_35 ?_
      refine lv_iload_n hx hb zd_X9_settle_38 rfl (lv_at hl 3 rfl) ?_
      have k69h : ∀ (s69_0 : Int32) (s69_1 : Option Nat) (H : Heap) (locs : List Loc) (ls : Array Slot), (
          s69_1.bind fun a14 =>
          (zf_p h a14 6 2 (.int (s69_0))).bind fun h15 =>
          some (h15, s33_0)
          ) = some res → zc_W g h H locs → lv_has ls 4 [(3, .int (s33_0))] → W p l e zr_X9_settle s m [va_rf ((some q)), .int (x1), .int (x2)].toArray below meth c H locs ((0 + 0) + 0) ((0 + 0) + 0) (zc_Q g below zr_X9_settle (some (.int (res.2))) res.1 [va_rf ((some q)), .int (x1), .int (x2)] s) (F0 m 69 ls [.int (s69_0), va_rf (s69_1)]) := by
        intro s69_0 s69_1 H locs ls hf hw hl
        replace hf := zo_b hf; obtain ⟨a14, na14, hf⟩ := hf
        refine W.eq (g2 := F0 m 69 ls [.int (s69_0), va_rf ((some a14))]) (by rw [na14] <;> rfl) ?_
        replace hf := zo_b hf; obtain ⟨h15, eh15, hf⟩ := hf
        refine zw_put S hK hw zk_6 (k := 2) (by decide) rfl zm_137 (Or.inl rfl) eh15 (ty := .int) (by decide +kernel) rfl rfl zd_X9_settle_69 (fun H locs hw => ?_)
        refine lv_iload_n hx hb zd_X9_settle_72 rfl (lv_at hl 0 rfl) ?_
        have hres := Option.some.inj hf; subst hres
        exact zw_iret (v := s33_0) (ty := .int) hx hb hr hlk rfl hw zd_X9_settle_73 (Nat.le_refl 0) (Nat.le_refl 0)
      refine lv_if_eq (tgt := 56) hx hb zd_X9_settle_39 (by decide) (fun c13 => ?_) (fun c13 => ?_)
      · replace hf := zo_t c13 hf
        refine zl_aload_n hx hb zd_X9_settle_56 rfl (lv_at hl 1 rfl) ?_
        replace hf := zo_b hf; obtain ⟨v16, ev16, hf⟩ := hf
        obtain ⟨u17, u17e, u17v⟩ := zo_b ev16
        obtain rfl := zv_r_e u17v
        refine zw_get S hK hw zk_9 (k := 1) (by decide) rfl zm_308 (Or.inl rfl) u17e zd_X9_settle_57 ?_
        replace hf := zo_b hf; obtain ⟨a18, na18, hf⟩ := hf
        refine W.eq (g2 := F0 m 60 ls [va_rf ((some a18)), va_rf (v11)]) (by rw [na18] <;> rfl) ?_
        replace hf := zo_b hf; obtain ⟨v19, ev19, hf⟩ := hf
        obtain ⟨u20, u20e, u20v⟩ := zo_b ev19
        obtain rfl := zv_i_e u20v
        refine zw_get S hK hw zk_6 (k := 2) (by decide) rfl zm_137 (Or.inl rfl) u20e zd_X9_settle_60 ?_
        refine lv_iconst (v := 1) hx hb zd_X9_settle_63 (by decide) ?_
        refine lv_iload_n hx hb zd_X9_settle_64 rfl (lv_at hl 2 rfl) ?_
        refine lv_ishl hx hb zd_X9_settle_65 ?_
        refine lv_iconst (v := (-1)) hx hb zd_X9_settle_66 (by decide) ?_
        refine lv_ixor hx hb zd_X9_settle_67 ?_
        refine lv_iand hx hb zd_X9_settle_68 ?_
        exact k69h (v19 &&& ((1 <<< (x1 &&& 31)) ^^^ (-1))) v11 _ _ _ hf hw (lv_sub hl [0] rfl)
      · replace hf := zo_f c13 hf
        refine zl_aload_n hx hb zd_X9_settle_42 rfl (lv_at hl 1 rfl) ?_
        replace hf := zo_b hf; obtain ⟨v21, ev21, hf⟩ := hf
        obtain ⟨u22, u22e, u22v⟩ := zo_b ev21
        obtain rfl := zv_r_e u22v
        refine zw_get S hK hw zk_9 (k := 1) (by decide) rfl zm_308 (Or.inl rfl) u22e zd_X9_settle_43 ?_
        replace hf := zo_b hf; obtain ⟨a23, na23, hf⟩ := hf
        refine W.eq (g2 := F0 m 46 ls [va_rf ((some a23)), va_rf (v11)]) (by rw [na23] <;> rfl) ?_
        replace hf := zo_b hf; obtain ⟨v24, ev24, hf⟩ := hf
        obtain ⟨u25, u25e, u25v⟩ := zo_b ev24
        obtain rfl := zv_i_e u25v
        refine zw_get S hK hw zk_6 (k := 2) (by decide) rfl zm_137 (Or.inl rfl) u25e zd_X9_settle_46 ?_
        refine lv_iconst (v := 1) hx hb zd_X9_settle_49 (by decide) ?_
        refine lv_iload_n hx hb zd_X9_settle_50 rfl (lv_at hl 2 rfl) ?_
        refine lv_ishl hx hb zd_X9_settle_51 ?_
        refine lv_ior hx hb zd_X9_settle_52 ?_
        refine lv_goto (tgt := 69) hx hb zd_X9_settle_53 (by decide) ?_
        exact k69h (v24 ||| (1 <<< (x1 &&& 31))) v11 _ _ _ hf hw (lv_sub hl [0] rfl)
    refine lv_if_eq (tgt := 32) hx hb zd_X9_settle_25 (by decide) (fun c10 => ?_) (fun c10 => ?_)
    · replace hf := zo_t c10 hf
      refine lv_iconst (v := 0) hx hb zd_X9_settle_32 (by decide) ?_
      exact k33h 0 _ _ _ hf hw (lv_sub hl [0, 1, 2] rfl)
    · replace hf := zo_f c10 hf
      refine lv_iconst (v := 1) hx hb zd_X9_settle_28 (by decide) ?_
      refine lv_goto (tgt := 33) hx hb zd_X9_settle_29 (by decide) ?_
      exact k33h 1 _ _ _ hf hw (lv_sub hl [0, 1, 2] rfl)
  · replace hf := zo_t c5 hf
    refine zl_aload_n hx hb zd_X9_settle_11 rfl (lv_at hl 0 rfl) ?_
    refine lv_iconst (v := (-1)) hx hb zd_X9_settle_12 (by decide) ?_
    replace hf := zo_b hf; obtain ⟨r26, er26, hf⟩ := hf
    refine zw_callV (n := 1) (ci := 9) (q := zc_cl[9]) (As := [.int ((-1))]) (rest := []) S hK hw (zt_X9_refuse l g h q (-1) _ er26) zm_349 zm_351 zm_1 zq_X9_refuse zm_68 (by decide +kernel) ⟨Nat.le_of_ble_eq_true rfl, Nat.le_of_ble_eq_true rfl⟩ rfl rfl rfl (zi_X9_refuse er26) hl.1 rfl (by simp [zv_cat, zv_ci, zv_cj]) zd_X9_settle_13 ⟨(Nat.le_refl 0), (Nat.le_refl 0)⟩ (fun H locs hw => ?_)
    replace hw : zc_W g r26.1 H locs := hw
    have hres := Option.some.inj hf; subst hres
    exact zw_iret (v := r26.2) (ty := .int) hx hb hr hlk rfl hw zd_X9_settle_16 (Nat.le_refl 0) (Nat.le_refl 0)
def zf_X9_put (h : zc_H) (q : Nat) (x1 : Int32) (x2 : Int32) (x3 : Int32) : Option (zc_H × Int32) :=
  if ¬ zf_is h q 9 = true then none else
  (zf_gr h q 9 1).bind fun v1 =>
  v1.bind fun a3 =>
  (zf_X6_remarkAt h a3 x1).bind fun r4 =>
  (zf_gr h q 9 1).bind fun v5 =>
  v5.bind fun a7 =>
  (zf_X6_revisionAt h a7 x2).bind fun r8 =>
  let k30 := fun (_ : Unit) =>
    (zf_X9_refuse h q (-11)).bind fun r10 =>
    some (r10.1, r10.2)
  if r4 = none then
    k30 ()
  else
  if r8 = none then
    k30 ()
  else
  let k46 := fun (_ : Unit) =>
    (zf_X9_refuse h q (-15)).bind fun r13 =>
    some (r13.1, r13.2)
  if x3 < 0 then
    k46 ()
  else
  if x3 ≤ 2 then
    (zf_gr h q 9 8).bind fun v15 =>
    r4.bind fun a17 =>
    (zf_gi h a17 3 1).bind fun v18 =>
    v15.bind fun a20 =>
    (zf_X8_putOn h a20 r4 v18 r8).bind fun r21 =>
    if r21.2 = 0 then
      (zf_X9_refuse r21.1 q (-16)).bind fun r42 =>
      some (r42.1, r42.2)
    else
    if x3 = 0 then
      (zf_gr r21.1 q 9 8).bind fun v24 =>
      v24.bind fun a26 =>
      (zf_gi r21.1 a26 8 2).bind fun v27 =>
      (zf_X9_firstOf r21.1 v27).bind fun r29 =>
      some (r21.1, r29)
    else
    if x3 = 1 then
      (zf_gr r21.1 q 9 8).bind fun v31 =>
      v31.bind fun a33 =>
      (zf_gi r21.1 a33 8 2).bind fun v34 =>
      (zf_X9_lastOf r21.1 v34).bind fun r36 =>
      some (r21.1, r36)
    else
    (zf_gr r21.1 q 9 8).bind fun v37 =>
    v37.bind fun a39 =>
    (zf_gi r21.1 a39 8 3).bind fun v40 =>
    some (r21.1, v40)
  else
  k46 ()
abbrev zr_X9_put : Room := { frames := 10, cells := 17, slots := 680, locals := 277 }
theorem zi_X9_put {h : zc_H} {q : Nat} {x1 : Int32} {x2 : Int32} {x3 : Int32} {res : zc_H × Int32} (hf : zf_X9_put h q x1 x2 x3 = some res) : zf_is h q 9 = true := Decidable.not_not.mp (zo_n hf).1
set_option maxHeartbeats 4000000 in
set_option maxRecDepth 20000 in
theorem zt_X9_put (l : Launch) (g : zc_G) (h : zc_H) (q : Nat) (x1 : Int32) (x2 : Int32) (x3 : Int32) (res : zc_H × Int32) (hf : zf_X9_put h q x1 x2 x3 = some res) : zc_M l g yX9_put cX9_put 6 (some .int) zr_X9_put h [va_rf ((some q)), .int (x1), .int (x2), .int (x3)] res.1 (some (.int (res.2))) := by
  refine zc_M.of (by decide) (by simp [lg_sl, zv_cat, zv_ci, zv_cj]) ?_
  intro p e s m below meth c ls S hK hw hr hlk hnm hl
  replace S : CallFix p m c cX9_put 6 s [va_rf ((some q)), .int (x1), .int (x2), .int (x3)].toArray (zc_ws yX9_put cX9_put 6 (some .int)) RX9 := S
  have hx := S.1
  have hb := S.2.1
  replace hl : lv_has ls 6 [(0, va_rf ((some q))), (1, .int (x1)), (2, .int (x2)), (3, .int (x3))] := by simpa [lv_args, zv_cat, zv_ci, zv_cj] using hl
  generalize s.heap = H at hw ⊢
  obtain ⟨locs, hlocs⟩ : ∃ L : List Loc, L = [] := ⟨_, rfl⟩
  rw [← hlocs] at hw ⊢
  unfold zf_X9_put at hf
  obtain ⟨-, hf⟩ := zo_n hf
  refine zl_aload_n hx hb zd_X9_put_0 rfl (lv_at hl 0 rfl) ?_
  replace hf := zo_b hf; obtain ⟨v1, ev1, hf⟩ := hf
  obtain ⟨u2, u2e, u2v⟩ := zo_b ev1
  obtain rfl := zv_r_e u2v
  refine zw_get S hK hw zk_9 (k := 1) (by decide) rfl zm_308 (Or.inl rfl) u2e zd_X9_put_1 ?_
  refine lv_iload_n hx hb zd_X9_put_4 rfl (lv_at hl 1 rfl) ?_
  replace hf := zo_b hf; obtain ⟨a3, na3, hf⟩ := hf
  refine W.eq (g2 := F0 m 5 ls [.int (x1), va_rf ((some a3))]) (by rw [na3] <;> rfl) ?_
  replace hf := zo_b hf; obtain ⟨r4, er4, hf⟩ := hf
  refine zw_callV (n := 1) (ci := 6) (q := zc_cl[6]) (As := [.int (x1)]) (rest := []) S hK hw (zt_X6_remarkAt l g h a3 x1 _ er4) zm_420 zm_421 zm_422 zq_X6_remarkAt zm_69 (by decide +kernel) ⟨Nat.le_of_ble_eq_true rfl, Nat.le_of_ble_eq_true rfl⟩ rfl rfl rfl (zi_X6_remarkAt er4) hl.1 rfl (by simp [zv_cat, zv_ci, zv_cj]) zd_X9_put_5 ⟨(by show 0 + (0 : Nat) ≤ (17 : Nat); omega), (by show 0 + (0 : Nat) ≤ (680 : Nat); omega)⟩ (fun H locs hw => ?_)
  replace hw : zc_W g h H locs := hw
  refine W.widen (k := (0 + 0)) (n := (0 + 0)) (Nat.le_refl _) (Nat.le_refl _) ?_
  refine zl_astore (i := 4) (lv' := [(4, va_rf (r4)), (0, va_rf ((some q))), (1, .int (x1)), (2, .int (x2)), (3, .int (x3))]) hx hb zd_X9_put_8 hl (by decide) rfl (fun ls hl => ?_)
  refine zl_aload_n hx hb zd_X9_put_10 rfl (lv_at hl 1 rfl) ?_
  replace hf := zo_b hf; obtain ⟨v5, ev5, hf⟩ := hf
  obtain ⟨u6, u6e, u6v⟩ := zo_b ev5
  obtain rfl := zv_r_e u6v
  refine zw_get S hK hw zk_9 (k := 1) (by decide) rfl zm_308 (Or.inl rfl) u6e zd_X9_put_11 ?_
  refine lv_iload_n hx hb zd_X9_put_14 rfl (lv_at hl 3 rfl) ?_
  replace hf := zo_b hf; obtain ⟨a7, na7, hf⟩ := hf
  refine W.eq (g2 := F0 m 15 ls [.int (x2), va_rf ((some a7))]) (by rw [na7] <;> rfl) ?_
  replace hf := zo_b hf; obtain ⟨r8, er8, hf⟩ := hf
  refine zw_callV (n := 1) (ci := 6) (q := zc_cl[6]) (As := [.int (x2)]) (rest := []) S hK hw (zt_X6_revisionAt l g h a7 x2 _ er8) zm_482 zm_483 zm_484 zq_X6_revisionAt zm_69 (by decide +kernel) ⟨Nat.le_of_ble_eq_true rfl, Nat.le_of_ble_eq_true rfl⟩ rfl rfl rfl (zi_X6_revisionAt er8) hl.1 rfl (by simp [zv_cat, zv_ci, zv_cj]) zd_X9_put_15 ⟨(by show (0 + 0) + (0 : Nat) ≤ (17 : Nat); omega), (by show (0 + 0) + (0 : Nat) ≤ (680 : Nat); omega)⟩ (fun H locs hw => ?_)
  replace hw : zc_W g h H locs := hw
  refine W.widen (k := ((0 + 0) + 0)) (n := ((0 + 0) + 0)) (Nat.le_refl _) (Nat.le_refl _) ?_
  refine zl_astore (i := 5) (lv' := [(5, va_rf (r8)), (4, va_rf (r4)), (0, va_rf ((some q))), (1, .int (x1)), (2, .int (x2)), (3, .int (x3))]) hx hb zd_X9_put_18 hl (by decide) (by simp [List.filter, zv_cat, zv_ci, zv_cj]) (fun ls hl => ?_)
  refine zl_aload hx hb zd_X9_put_20 (lv_at hl 1 rfl) ?_
  have k30h : ∀ (_ : Unit) (H : Heap) (locs : List Loc) (ls : Array Slot), (
      (zf_X9_refuse h q (-11)).bind fun r10 =>
      some (r10.1, r10.2)
      ) = some res → zc_W g h H locs → lv_has ls 6 [(0, va_rf ((some q)))] → W p l e zr_X9_put s m [va_rf ((some q)), .int (x1), .int (x2), .int (x3)].toArray below meth c H locs ((0 + 0) + 0) ((0 + 0) + 0) (zc_Q g below zr_X9_put (some (.int (res.2))) res.1 [va_rf ((some q)), .int (x1), .int (x2), .int (x3)] s) (F0 m 30 ls []) := by
    intro _ H locs ls hf hw hl
    refine zl_aload_n hx hb zd_X9_put_30 rfl (lv_at hl 0 rfl) ?_
    refine lv_bipush (v := (-11)) hx hb zd_X9_put_31 (by decide) ?_
    replace hf := zo_b hf; obtain ⟨r10, er10, hf⟩ := hf
    refine zw_callV (n := 1) (ci := 9) (q := zc_cl[9]) (As := [.int ((-11))]) (rest := []) S hK hw (zt_X9_refuse l g h q (-11) _ er10) zm_349 zm_351 zm_1 zq_X9_refuse zm_68 (by decide +kernel) ⟨Nat.le_of_ble_eq_true rfl, Nat.le_of_ble_eq_true rfl⟩ rfl rfl rfl (zi_X9_refuse er10) hl.1 rfl (by simp [zv_cat, zv_ci, zv_cj]) zd_X9_put_33 ⟨(by show ((0 + 0) + 0) + (0 : Nat) ≤ (17 : Nat); omega), (by show ((0 + 0) + 0) + (0 : Nat) ≤ (680 : Nat); omega)⟩ (fun H locs hw => ?_)
    replace hw : zc_W g r10.1 H locs := hw
    refine W.widen (k := (((0 + 0) + 0) + 0)) (n := (((0 + 0) + 0) + 0)) (Nat.le_refl _) (Nat.le_refl _) ?_
    have hres := Option.some.inj hf; subst hres
    exact zw_iret (v := r10.2) (ty := .int) hx hb hr hlk rfl hw zd_X9_put_36 (by show _ ≤ (17 : Nat); omega) (by show _ ≤ (680 : Nat); omega)
  refine zl_ifnull (tgt := 30) hx hb zd_X9_put_22 (by decide) (fun c9 => ?_) (fun c9 => ?_)
  · replace hf := zo_t c9 hf
    exact k30h () _ _ _ hf hw (lv_sub hl [2] rfl)
  · replace hf := zo_f c9 hf
    refine zl_aload hx hb zd_X9_put_25 (lv_at hl 0 rfl) ?_
    refine zl_ifnonnull (tgt := 37) hx hb zd_X9_put_27 (by decide) (fun c11 => ?_) (fun c11 => ?_)
    · replace hf := zo_f c11 hf
      refine lv_iload_n hx hb zd_X9_put_37 rfl (lv_at hl 5 rfl) ?_
      have k46h : ∀ (_ : Unit) (H : Heap) (locs : List Loc) (ls : Array Slot), (
          (zf_X9_refuse h q (-15)).bind fun r13 =>
          some (r13.1, r13.2)
          ) = some res → zc_W g h H locs → lv_has ls 6 [(0, va_rf ((some q)))] → W p l e zr_X9_put s m [va_rf ((some q)), .int (x1), .int (x2), .int (x3)].toArray below meth c H locs ((0 + 0) + 0) ((0 + 0) + 0) (zc_Q g below zr_X9_put (some (.int (res.2))) res.1 [va_rf ((some q)), .int (x1), .int (x2), .int (x3)] s) (F0 m 46 ls []) := by
        intro _ H locs ls hf hw hl
        refine zl_aload_n hx hb zd_X9_put_46 rfl (lv_at hl 0 rfl) ?_
        refine lv_bipush (v := (-15)) hx hb zd_X9_put_47 (by decide) ?_
        replace hf := zo_b hf; obtain ⟨r13, er13, hf⟩ := hf
        refine zw_callV (n := 1) (ci := 9) (q := zc_cl[9]) (As := [.int ((-15))]) (rest := []) S hK hw (zt_X9_refuse l g h q (-15) _ er13) zm_349 zm_351 zm_1 zq_X9_refuse zm_68 (by decide +kernel) ⟨Nat.le_of_ble_eq_true rfl, Nat.le_of_ble_eq_true rfl⟩ rfl rfl rfl (zi_X9_refuse er13) hl.1 rfl (by simp [zv_cat, zv_ci, zv_cj]) zd_X9_put_49 ⟨(by show ((0 + 0) + 0) + (0 : Nat) ≤ (17 : Nat); omega), (by show ((0 + 0) + 0) + (0 : Nat) ≤ (680 : Nat); omega)⟩ (fun H locs hw => ?_)
        replace hw : zc_W g r13.1 H locs := hw
        refine W.widen (k := (((0 + 0) + 0) + 0)) (n := (((0 + 0) + 0) + 0)) (Nat.le_refl _) (Nat.le_refl _) ?_
        have hres := Option.some.inj hf; subst hres
        exact zw_iret (v := r13.2) (ty := .int) hx hb hr hlk rfl hw zd_X9_put_52 (by show _ ≤ (17 : Nat); omega) (by show _ ≤ (680 : Nat); omega)
      refine lv_if_lt (tgt := 46) hx hb zd_X9_put_38 (by decide) (fun c12 => ?_) (fun c12 => ?_)
      · replace hf := zo_t c12 hf
        exact k46h () _ _ _ hf hw (lv_sub hl [2] rfl)
      · replace hf := zo_f c12 hf
        refine lv_iload_n hx hb zd_X9_put_41 rfl (lv_at hl 5 rfl) ?_
        refine lv_iconst (v := 2) hx hb zd_X9_put_42 (by decide) ?_
        refine lv_icmp_le (tgt := 53) hx hb zd_X9_put_43 (by decide) (fun c14 => ?_) (fun c14 => ?_)
        · replace hf := zo_t c14 hf
          refine zl_aload_n hx hb zd_X9_put_53 rfl (lv_at hl 2 rfl) ?_
          replace hf := zo_b hf; obtain ⟨v15, ev15, hf⟩ := hf
          obtain ⟨u16, u16e, u16v⟩ := zo_b ev15
          obtain rfl := zv_r_e u16v
          refine zw_get S hK hw zk_9 (k := 8) (by decide) rfl zm_315 (Or.inl rfl) u16e zd_X9_put_54 ?_
          refine zl_aload hx hb zd_X9_put_57 (lv_at hl 1 rfl) ?_
          refine zl_aload hx hb zd_X9_put_59 (lv_at hl 1 rfl) ?_
          replace hf := zo_b hf; obtain ⟨a17, na17, hf⟩ := hf
          refine W.eq (g2 := F0 m 61 ls [va_rf ((some a17)), va_rf (r4), va_rf (v15)]) (by rw [na17] <;> rfl) ?_
          replace hf := zo_b hf; obtain ⟨v18, ev18, hf⟩ := hf
          obtain ⟨u19, u19e, u19v⟩ := zo_b ev18
          obtain rfl := zv_i_e u19v
          refine zw_get S hK hw zk_3 (k := 1) (by decide) rfl zm_761 (Or.inl rfl) u19e zd_X9_put_61 ?_
          refine zl_aload hx hb zd_X9_put_64 (lv_at hl 0 rfl) ?_
          replace hf := zo_b hf; obtain ⟨a20, na20, hf⟩ := hf
          refine W.eq (g2 := F0 m 66 ls [va_rf (r8), .int (v18), va_rf (r4), va_rf ((some a20))]) (by rw [na20] <;> rfl) ?_
          replace hf := zo_b hf; obtain ⟨r21, er21, hf⟩ := hf
          refine zw_callV (n := 3) (ci := 8) (q := zc_cl[8]) (As := [va_rf (r4), .int (v18), va_rf (r8)]) (rest := []) S hK hw (zt_X8_putOn l g h a20 r4 v18 r8 _ er21) zm_824 zm_825 zm_826 zq_X8_putOn zm_75 (by decide +kernel) ⟨Nat.le_of_ble_eq_true rfl, Nat.le_of_ble_eq_true rfl⟩ rfl rfl rfl (zi_X8_putOn er21) hl.1 rfl (by simp [zv_cat, zv_ci, zv_cj]) zd_X9_put_66 ⟨(by show ((0 + 0) + 0) + (17 : Nat) ≤ (17 : Nat); omega), (by show ((0 + 0) + 0) + (680 : Nat) ≤ (680 : Nat); omega)⟩ (fun H locs hw => ?_)
          replace hw : zc_W g r21.1 H locs := hw
          refine W.widen (k := (((0 + 0) + 0) + 17)) (n := (((0 + 0) + 0) + 680)) (Nat.le_refl _) (Nat.le_refl _) ?_
          refine lv_if_ne (tgt := 79) hx hb zd_X9_put_69 (by decide) (fun c22 => ?_) (fun c22 => ?_)
          · replace hf := zo_f c22 hf
            refine lv_iload_n hx hb zd_X9_put_79 rfl (lv_at hl 5 rfl) ?_
            by_cases c23 : x3 = 0
            · replace hf := zo_t c23 hf
              refine W.eq (g2 := F0 m 80 ls (.int 0 :: [])) (by rw [c23] <;> rfl) ?_
              refine lv_lookup (off := 28) (tgt := 108) hx hb zd_X9_put_80 (by decide) (by decide) (by decide) ?_
              refine zl_aload_n hx hb zd_X9_put_108 rfl (lv_at hl 2 rfl) ?_
              replace hf := zo_b hf; obtain ⟨v24, ev24, hf⟩ := hf
              obtain ⟨u25, u25e, u25v⟩ := zo_b ev24
              obtain rfl := zv_r_e u25v
              refine zw_get S hK hw zk_9 (k := 8) (by decide) rfl zm_315 (Or.inl rfl) u25e zd_X9_put_109 ?_
              replace hf := zo_b hf; obtain ⟨a26, na26, hf⟩ := hf
              refine W.eq (g2 := F0 m 112 ls [va_rf ((some a26))]) (by rw [na26] <;> rfl) ?_
              replace hf := zo_b hf; obtain ⟨v27, ev27, hf⟩ := hf
              obtain ⟨u28, u28e, u28v⟩ := zo_b ev27
              obtain rfl := zv_i_e u28v
              refine zw_get S hK hw zk_8 (k := 2) (by decide) rfl zm_214 (Or.inl rfl) u28e zd_X9_put_112 ?_
              replace hf := zo_b hf; obtain ⟨r29, er29, hf⟩ := hf
              refine zw_callS (n := 1) (As := [.int (v27)]) (rest := []) S hK hw (zt_X9_firstOf l g r21.1 v27 _ er29) zm_473 zm_474 zq_X9_firstOf zm_68 (by decide +kernel) ⟨Nat.le_of_ble_eq_true rfl, Nat.le_of_ble_eq_true rfl⟩ rfl hl.1 rfl (by simp [zv_cat, zv_ci, zv_cj]) zd_X9_put_115 ⟨(by show (((0 + 0) + 0) + 17) + (0 : Nat) ≤ (17 : Nat); omega), (by show (((0 + 0) + 0) + 680) + (0 : Nat) ≤ (680 : Nat); omega)⟩ (fun H locs hw => ?_)
              replace hw : zc_W g r21.1 H locs := hw
              refine W.widen (k := ((((0 + 0) + 0) + 17) + 0)) (n := ((((0 + 0) + 0) + 680) + 0)) (Nat.le_refl _) (Nat.le_refl _) ?_
              have hres := Option.some.inj hf; subst hres
              exact zw_iret (v := r29) (ty := .int) hx hb hr hlk rfl hw zd_X9_put_118 (by show _ ≤ (17 : Nat); omega) (by show _ ≤ (680 : Nat); omega)
            replace hf := zo_f c23 hf
            by_cases c30 : x3 = 1
            · replace hf := zo_t c30 hf
              refine W.eq (g2 := F0 m 80 ls (.int 1 :: [])) (by rw [c30] <;> rfl) ?_
              refine lv_lookup (off := 39) (tgt := 119) hx hb zd_X9_put_80 (by decide) (by decide) (by decide) ?_
              refine zl_aload_n hx hb zd_X9_put_119 rfl (lv_at hl 2 rfl) ?_
              replace hf := zo_b hf; obtain ⟨v31, ev31, hf⟩ := hf
              obtain ⟨u32, u32e, u32v⟩ := zo_b ev31
              obtain rfl := zv_r_e u32v
              refine zw_get S hK hw zk_9 (k := 8) (by decide) rfl zm_315 (Or.inl rfl) u32e zd_X9_put_120 ?_
              replace hf := zo_b hf; obtain ⟨a33, na33, hf⟩ := hf
              refine W.eq (g2 := F0 m 123 ls [va_rf ((some a33))]) (by rw [na33] <;> rfl) ?_
              replace hf := zo_b hf; obtain ⟨v34, ev34, hf⟩ := hf
              obtain ⟨u35, u35e, u35v⟩ := zo_b ev34
              obtain rfl := zv_i_e u35v
              refine zw_get S hK hw zk_8 (k := 2) (by decide) rfl zm_214 (Or.inl rfl) u35e zd_X9_put_123 ?_
              replace hf := zo_b hf; obtain ⟨r36, er36, hf⟩ := hf
              refine zw_callS (n := 1) (As := [.int (v34)]) (rest := []) S hK hw (zt_X9_lastOf l g r21.1 v34 _ er36) zm_470 zm_471 zq_X9_lastOf zm_68 (by decide +kernel) ⟨Nat.le_of_ble_eq_true rfl, Nat.le_of_ble_eq_true rfl⟩ rfl hl.1 rfl (by simp [zv_cat, zv_ci, zv_cj]) zd_X9_put_126 ⟨(by show (((0 + 0) + 0) + 17) + (0 : Nat) ≤ (17 : Nat); omega), (by show (((0 + 0) + 0) + 680) + (0 : Nat) ≤ (680 : Nat); omega)⟩ (fun H locs hw => ?_)
              replace hw : zc_W g r21.1 H locs := hw
              refine W.widen (k := ((((0 + 0) + 0) + 17) + 0)) (n := ((((0 + 0) + 0) + 680) + 0)) (Nat.le_refl _) (Nat.le_refl _) ?_
              have hres := Option.some.inj hf; subst hres
              exact zw_iret (v := r36) (ty := .int) hx hb hr hlk rfl hw zd_X9_put_129 (by show _ ≤ (17 : Nat); omega) (by show _ ≤ (680 : Nat); omega)
            replace hf := zo_f c30 hf
            have zc23 : (x3 : Int32).toInt ≠ 0 := fun h => c23 (Int32.toInt_inj.mp (h.trans (by decide)))
            have zc30 : (x3 : Int32).toInt ≠ 1 := fun h => c30 (Int32.toInt_inj.mp (h.trans (by decide)))
            refine lv_lookup (off := 50) (tgt := 130) hx hb zd_X9_put_80 (by decide) (by simp [Op.lookupswitch.offset, Ne.symm zc23, Ne.symm zc30]) (by decide) ?_
            refine zl_aload_n hx hb zd_X9_put_130 rfl (lv_at hl 2 rfl) ?_
            replace hf := zo_b hf; obtain ⟨v37, ev37, hf⟩ := hf
            obtain ⟨u38, u38e, u38v⟩ := zo_b ev37
            obtain rfl := zv_r_e u38v
            refine zw_get S hK hw zk_9 (k := 8) (by decide) rfl zm_315 (Or.inl rfl) u38e zd_X9_put_131 ?_
            replace hf := zo_b hf; obtain ⟨a39, na39, hf⟩ := hf
            refine W.eq (g2 := F0 m 134 ls [va_rf ((some a39))]) (by rw [na39] <;> rfl) ?_
            replace hf := zo_b hf; obtain ⟨v40, ev40, hf⟩ := hf
            obtain ⟨u41, u41e, u41v⟩ := zo_b ev40
            obtain rfl := zv_i_e u41v
            refine zw_get S hK hw zk_8 (k := 3) (by decide) rfl zm_216 (Or.inl rfl) u41e zd_X9_put_134 ?_
            have hres := Option.some.inj hf; subst hres
            exact zw_iret (v := v40) (ty := .int) hx hb hr hlk rfl hw zd_X9_put_137 (by show _ ≤ (17 : Nat); omega) (by show _ ≤ (680 : Nat); omega)
          · replace hf := zo_t c22 hf
            refine zl_aload_n hx hb zd_X9_put_72 rfl (lv_at hl 2 rfl) ?_
            refine lv_bipush (v := (-16)) hx hb zd_X9_put_73 (by decide) ?_
            replace hf := zo_b hf; obtain ⟨r42, er42, hf⟩ := hf
            refine zw_callV (n := 1) (ci := 9) (q := zc_cl[9]) (As := [.int ((-16))]) (rest := []) S hK hw (zt_X9_refuse l g r21.1 q (-16) _ er42) zm_349 zm_351 zm_1 zq_X9_refuse zm_68 (by decide +kernel) ⟨Nat.le_of_ble_eq_true rfl, Nat.le_of_ble_eq_true rfl⟩ rfl rfl rfl (zi_X9_refuse er42) hl.1 rfl (by simp [zv_cat, zv_ci, zv_cj]) zd_X9_put_75 ⟨(by show (((0 + 0) + 0) + 17) + (0 : Nat) ≤ (17 : Nat); omega), (by show (((0 + 0) + 0) + 680) + (0 : Nat) ≤ (680 : Nat); omega)⟩ (fun H locs hw => ?_)
            replace hw : zc_W g r42.1 H locs := hw
            refine W.widen (k := ((((0 + 0) + 0) + 17) + 0)) (n := ((((0 + 0) + 0) + 680) + 0)) (Nat.le_refl _) (Nat.le_refl _) ?_
            have hres := Option.some.inj hf; subst hres
            exact zw_iret (v := r42.2) (ty := .int) hx hb hr hlk rfl hw zd_X9_put_78 (by show _ ≤ (17 : Nat); omega) (by show _ ≤ (680 : Nat); omega)
        · replace hf := zo_f c14 hf
          exact k46h () _ _ _ hf hw (lv_sub hl [2] rfl)
    · replace hf := zo_t c11 hf
      exact k30h () _ _ _ hf hw (lv_sub hl [2] rfl)
def zf_X9_score (h : zc_H) (q : Nat) (x1 : Int32) (x2 : Int32) (x3 : Int32) : Option (zc_H × Int32) :=
  if ¬ zf_is h q 9 = true then none else
  (zf_gr h q 9 1).bind fun v1 =>
  v1.bind fun a3 =>
  (zf_X6_remarkAt h a3 x1).bind fun r4 =>
  (zf_gr h q 9 1).bind fun v5 =>
  v5.bind fun a7 =>
  (zf_X6_revisionAt h a7 x2).bind fun r8 =>
  let k30 := fun (_ : Unit) =>
    (zf_X9_refuse h q (-1)).bind fun r10 =>
    some (r10.1, r10.2)
  if r4 = none then
    k30 ()
  else
  if r8 = none then
    k30 ()
  else
  r4.bind fun a12 =>
  (zf_gr h a12 3 3).bind fun v13 =>
  if r8 = v13 then
    (zf_X9_refuse h q (-6)).bind fun r16 =>
    some (r16.1, r16.2)
  else
  (zf_gr h q 9 8).bind fun v17 =>
  (zf_gi h a12 3 1).bind fun v19 =>
  v17.bind fun a21 =>
  (zf_X8_putOn h a21 r4 v19 r8).bind fun r22 =>
  if r22.2 = 0 then
    (zf_X9_refuse r22.1 q (-6)).bind fun r34 =>
    some (r34.1, r34.2)
  else
  (zf_gr r22.1 q 9 8).bind fun v24 =>
  v24.bind fun a26 =>
  (zf_X8_isPlace r22.1 a26 r8 x3).bind fun r27 =>
  if r27 = 0 then
    (zf_X9_refuse r22.1 q (-5)).bind fun r33 =>
    some (r33.1, r33.2)
  else
  (zf_gr r22.1 q 9 8).bind fun v29 =>
  v29.bind fun a31 =>
  (zf_X8_scoreAt r22.1 a31 r8 x3).bind fun r32 =>
  some (r22.1, r32)
abbrev zr_X9_score : Room := { frames := 10, cells := 17, slots := 680, locals := 277 }
theorem zi_X9_score {h : zc_H} {q : Nat} {x1 : Int32} {x2 : Int32} {x3 : Int32} {res : zc_H × Int32} (hf : zf_X9_score h q x1 x2 x3 = some res) : zf_is h q 9 = true := Decidable.not_not.mp (zo_n hf).1
set_option maxHeartbeats 4000000 in
set_option maxRecDepth 20000 in
theorem zt_X9_score (l : Launch) (g : zc_G) (h : zc_H) (q : Nat) (x1 : Int32) (x2 : Int32) (x3 : Int32) (res : zc_H × Int32) (hf : zf_X9_score h q x1 x2 x3 = some res) : zc_M l g yX9_score cX9_score 6 (some .int) zr_X9_score h [va_rf ((some q)), .int (x1), .int (x2), .int (x3)] res.1 (some (.int (res.2))) := by
  refine zc_M.of (by decide) (by simp [lg_sl, zv_cat, zv_ci, zv_cj]) ?_
  intro p e s m below meth c ls S hK hw hr hlk hnm hl
  replace S : CallFix p m c cX9_score 6 s [va_rf ((some q)), .int (x1), .int (x2), .int (x3)].toArray (zc_ws yX9_score cX9_score 6 (some .int)) RX9 := S
  have hx := S.1
  have hb := S.2.1
  replace hl : lv_has ls 6 [(0, va_rf ((some q))), (1, .int (x1)), (2, .int (x2)), (3, .int (x3))] := by simpa [lv_args, zv_cat, zv_ci, zv_cj] using hl
  generalize s.heap = H at hw ⊢
  obtain ⟨locs, hlocs⟩ : ∃ L : List Loc, L = [] := ⟨_, rfl⟩
  rw [← hlocs] at hw ⊢
  unfold zf_X9_score at hf
  obtain ⟨-, hf⟩ := zo_n hf
  refine zl_aload_n hx hb zd_X9_score_0 rfl (lv_at hl 0 rfl) ?_
  replace hf := zo_b hf; obtain ⟨v1, ev1, hf⟩ := hf
  obtain ⟨u2, u2e, u2v⟩ := zo_b ev1
  obtain rfl := zv_r_e u2v
  refine zw_get S hK hw zk_9 (k := 1) (by decide) rfl zm_308 (Or.inl rfl) u2e zd_X9_score_1 ?_
  refine lv_iload_n hx hb zd_X9_score_4 rfl (lv_at hl 1 rfl) ?_
  replace hf := zo_b hf; obtain ⟨a3, na3, hf⟩ := hf
  refine W.eq (g2 := F0 m 5 ls [.int (x1), va_rf ((some a3))]) (by rw [na3] <;> rfl) ?_
  replace hf := zo_b hf; obtain ⟨r4, er4, hf⟩ := hf
  refine zw_callV (n := 1) (ci := 6) (q := zc_cl[6]) (As := [.int (x1)]) (rest := []) S hK hw (zt_X6_remarkAt l g h a3 x1 _ er4) zm_420 zm_421 zm_422 zq_X6_remarkAt zm_69 (by decide +kernel) ⟨Nat.le_of_ble_eq_true rfl, Nat.le_of_ble_eq_true rfl⟩ rfl rfl rfl (zi_X6_remarkAt er4) hl.1 rfl (by simp [zv_cat, zv_ci, zv_cj]) zd_X9_score_5 ⟨(by show 0 + (0 : Nat) ≤ (17 : Nat); omega), (by show 0 + (0 : Nat) ≤ (680 : Nat); omega)⟩ (fun H locs hw => ?_)
  replace hw : zc_W g h H locs := hw
  refine W.widen (k := (0 + 0)) (n := (0 + 0)) (Nat.le_refl _) (Nat.le_refl _) ?_
  refine zl_astore (i := 4) (lv' := [(4, va_rf (r4)), (0, va_rf ((some q))), (1, .int (x1)), (2, .int (x2)), (3, .int (x3))]) hx hb zd_X9_score_8 hl (by decide) rfl (fun ls hl => ?_)
  refine zl_aload_n hx hb zd_X9_score_10 rfl (lv_at hl 1 rfl) ?_
  replace hf := zo_b hf; obtain ⟨v5, ev5, hf⟩ := hf
  obtain ⟨u6, u6e, u6v⟩ := zo_b ev5
  obtain rfl := zv_r_e u6v
  refine zw_get S hK hw zk_9 (k := 1) (by decide) rfl zm_308 (Or.inl rfl) u6e zd_X9_score_11 ?_
  refine lv_iload_n hx hb zd_X9_score_14 rfl (lv_at hl 3 rfl) ?_
  replace hf := zo_b hf; obtain ⟨a7, na7, hf⟩ := hf
  refine W.eq (g2 := F0 m 15 ls [.int (x2), va_rf ((some a7))]) (by rw [na7] <;> rfl) ?_
  replace hf := zo_b hf; obtain ⟨r8, er8, hf⟩ := hf
  refine zw_callV (n := 1) (ci := 6) (q := zc_cl[6]) (As := [.int (x2)]) (rest := []) S hK hw (zt_X6_revisionAt l g h a7 x2 _ er8) zm_482 zm_483 zm_484 zq_X6_revisionAt zm_69 (by decide +kernel) ⟨Nat.le_of_ble_eq_true rfl, Nat.le_of_ble_eq_true rfl⟩ rfl rfl rfl (zi_X6_revisionAt er8) hl.1 rfl (by simp [zv_cat, zv_ci, zv_cj]) zd_X9_score_15 ⟨(by show (0 + 0) + (0 : Nat) ≤ (17 : Nat); omega), (by show (0 + 0) + (0 : Nat) ≤ (680 : Nat); omega)⟩ (fun H locs hw => ?_)
  replace hw : zc_W g h H locs := hw
  refine W.widen (k := ((0 + 0) + 0)) (n := ((0 + 0) + 0)) (Nat.le_refl _) (Nat.le_refl _) ?_
  refine zl_astore (i := 5) (lv' := [(5, va_rf (r8)), (4, va_rf (r4)), (0, va_rf ((some q))), (1, .int (x1)), (2, .int (x2)), (3, .int (x3))]) hx hb zd_X9_score_18 hl (by decide) (by simp [List.filter, zv_cat, zv_ci, zv_cj]) (fun ls hl => ?_)
  refine zl_aload hx hb zd_X9_score_20 (lv_at hl 1 rfl) ?_
  have k30h : ∀ (_ : Unit) (H : Heap) (locs : List Loc) (ls : Array Slot), (
      (zf_X9_refuse h q (-1)).bind fun r10 =>
      some (r10.1, r10.2)
      ) = some res → zc_W g h H locs → lv_has ls 6 [(0, va_rf ((some q)))] → W p l e zr_X9_score s m [va_rf ((some q)), .int (x1), .int (x2), .int (x3)].toArray below meth c H locs ((0 + 0) + 0) ((0 + 0) + 0) (zc_Q g below zr_X9_score (some (.int (res.2))) res.1 [va_rf ((some q)), .int (x1), .int (x2), .int (x3)] s) (F0 m 30 ls []) := by
    intro _ H locs ls hf hw hl
    refine zl_aload_n hx hb zd_X9_score_30 rfl (lv_at hl 0 rfl) ?_
    refine lv_iconst (v := (-1)) hx hb zd_X9_score_31 (by decide) ?_
    replace hf := zo_b hf; obtain ⟨r10, er10, hf⟩ := hf
    refine zw_callV (n := 1) (ci := 9) (q := zc_cl[9]) (As := [.int ((-1))]) (rest := []) S hK hw (zt_X9_refuse l g h q (-1) _ er10) zm_349 zm_351 zm_1 zq_X9_refuse zm_68 (by decide +kernel) ⟨Nat.le_of_ble_eq_true rfl, Nat.le_of_ble_eq_true rfl⟩ rfl rfl rfl (zi_X9_refuse er10) hl.1 rfl (by simp [zv_cat, zv_ci, zv_cj]) zd_X9_score_32 ⟨(by show ((0 + 0) + 0) + (0 : Nat) ≤ (17 : Nat); omega), (by show ((0 + 0) + 0) + (0 : Nat) ≤ (680 : Nat); omega)⟩ (fun H locs hw => ?_)
    replace hw : zc_W g r10.1 H locs := hw
    refine W.widen (k := (((0 + 0) + 0) + 0)) (n := (((0 + 0) + 0) + 0)) (Nat.le_refl _) (Nat.le_refl _) ?_
    have hres := Option.some.inj hf; subst hres
    exact zw_iret (v := r10.2) (ty := .int) hx hb hr hlk rfl hw zd_X9_score_35 (by show _ ≤ (17 : Nat); omega) (by show _ ≤ (680 : Nat); omega)
  refine zl_ifnull (tgt := 30) hx hb zd_X9_score_22 (by decide) (fun c9 => ?_) (fun c9 => ?_)
  · replace hf := zo_t c9 hf
    exact k30h () _ _ _ hf hw (lv_sub hl [2] rfl)
  · replace hf := zo_f c9 hf
    refine zl_aload hx hb zd_X9_score_25 (lv_at hl 0 rfl) ?_
    refine zl_ifnonnull (tgt := 36) hx hb zd_X9_score_27 (by decide) (fun c11 => ?_) (fun c11 => ?_)
    · replace hf := zo_f c11 hf
      refine zl_aload hx hb zd_X9_score_36 (lv_at hl 0 rfl) ?_
      refine zl_aload hx hb zd_X9_score_38 (lv_at hl 1 rfl) ?_
      replace hf := zo_b hf; obtain ⟨a12, na12, hf⟩ := hf
      refine W.eq (g2 := F0 m 40 ls [va_rf ((some a12)), va_rf (r8)]) (by rw [na12] <;> rfl) ?_
      replace hf := zo_b hf; obtain ⟨v13, ev13, hf⟩ := hf
      obtain ⟨u14, u14e, u14v⟩ := zo_b ev13
      obtain rfl := zv_r_e u14v
      refine zw_get S hK hw zk_3 (k := 3) (by decide) rfl zm_768 (Or.inl rfl) u14e zd_X9_score_40 ?_
      refine lv_acmp_eq (tgt := 65) hx hb zd_X9_score_43 (by decide) (fun c15 => ?_) (fun c15 => ?_)
      · replace hf := zo_t c15 hf
        refine zl_aload_n hx hb zd_X9_score_65 rfl (lv_at hl 2 rfl) ?_
        refine lv_bipush (v := (-6)) hx hb zd_X9_score_66 (by decide) ?_
        replace hf := zo_b hf; obtain ⟨r16, er16, hf⟩ := hf
        refine zw_callV (n := 1) (ci := 9) (q := zc_cl[9]) (As := [.int ((-6))]) (rest := []) S hK hw (zt_X9_refuse l g h q (-6) _ er16) zm_349 zm_351 zm_1 zq_X9_refuse zm_68 (by decide +kernel) ⟨Nat.le_of_ble_eq_true rfl, Nat.le_of_ble_eq_true rfl⟩ rfl rfl rfl (zi_X9_refuse er16) hl.1 rfl (by simp [zv_cat, zv_ci, zv_cj]) zd_X9_score_68 ⟨(by show ((0 + 0) + 0) + (0 : Nat) ≤ (17 : Nat); omega), (by show ((0 + 0) + 0) + (0 : Nat) ≤ (680 : Nat); omega)⟩ (fun H locs hw => ?_)
        replace hw : zc_W g r16.1 H locs := hw
        refine W.widen (k := (((0 + 0) + 0) + 0)) (n := (((0 + 0) + 0) + 0)) (Nat.le_refl _) (Nat.le_refl _) ?_
        have hres := Option.some.inj hf; subst hres
        exact zw_iret (v := r16.2) (ty := .int) hx hb hr hlk rfl hw zd_X9_score_71 (by show _ ≤ (17 : Nat); omega) (by show _ ≤ (680 : Nat); omega)
      · replace hf := zo_f c15 hf
        refine zl_aload_n hx hb zd_X9_score_46 rfl (lv_at hl 2 rfl) ?_
        replace hf := zo_b hf; obtain ⟨v17, ev17, hf⟩ := hf
        obtain ⟨u18, u18e, u18v⟩ := zo_b ev17
        obtain rfl := zv_r_e u18v
        refine zw_get S hK hw zk_9 (k := 8) (by decide) rfl zm_315 (Or.inl rfl) u18e zd_X9_score_47 ?_
        refine zl_aload hx hb zd_X9_score_50 (lv_at hl 1 rfl) ?_
        refine zl_aload hx hb zd_X9_score_52 (lv_at hl 1 rfl) ?_
        refine W.eq (g2 := F0 m 54 ls [va_rf ((some a12)), va_rf (r4), va_rf (v17)]) (by rw [na12] <;> rfl) ?_
        replace hf := zo_b hf; obtain ⟨v19, ev19, hf⟩ := hf
        obtain ⟨u20, u20e, u20v⟩ := zo_b ev19
        obtain rfl := zv_i_e u20v
        refine zw_get S hK hw zk_3 (k := 1) (by decide) rfl zm_761 (Or.inl rfl) u20e zd_X9_score_54 ?_
        refine zl_aload hx hb zd_X9_score_57 (lv_at hl 0 rfl) ?_
        replace hf := zo_b hf; obtain ⟨a21, na21, hf⟩ := hf
        refine W.eq (g2 := F0 m 59 ls [va_rf (r8), .int (v19), va_rf (r4), va_rf ((some a21))]) (by rw [na21] <;> rfl) ?_
        replace hf := zo_b hf; obtain ⟨r22, er22, hf⟩ := hf
        refine zw_callV (n := 3) (ci := 8) (q := zc_cl[8]) (As := [va_rf (r4), .int (v19), va_rf (r8)]) (rest := []) S hK hw (zt_X8_putOn l g h a21 r4 v19 r8 _ er22) zm_824 zm_825 zm_826 zq_X8_putOn zm_75 (by decide +kernel) ⟨Nat.le_of_ble_eq_true rfl, Nat.le_of_ble_eq_true rfl⟩ rfl rfl rfl (zi_X8_putOn er22) hl.1 rfl (by simp [zv_cat, zv_ci, zv_cj]) zd_X9_score_59 ⟨(by show ((0 + 0) + 0) + (17 : Nat) ≤ (17 : Nat); omega), (by show ((0 + 0) + 0) + (680 : Nat) ≤ (680 : Nat); omega)⟩ (fun H locs hw => ?_)
        replace hw : zc_W g r22.1 H locs := hw
        refine W.widen (k := (((0 + 0) + 0) + 17)) (n := (((0 + 0) + 0) + 680)) (Nat.le_refl _) (Nat.le_refl _) ?_
        refine lv_if_ne (tgt := 72) hx hb zd_X9_score_62 (by decide) (fun c23 => ?_) (fun c23 => ?_)
        · replace hf := zo_f c23 hf
          refine zl_aload_n hx hb zd_X9_score_72 rfl (lv_at hl 2 rfl) ?_
          replace hf := zo_b hf; obtain ⟨v24, ev24, hf⟩ := hf
          obtain ⟨u25, u25e, u25v⟩ := zo_b ev24
          obtain rfl := zv_r_e u25v
          refine zw_get S hK hw zk_9 (k := 8) (by decide) rfl zm_315 (Or.inl rfl) u25e zd_X9_score_73 ?_
          refine zl_aload hx hb zd_X9_score_76 (lv_at hl 0 rfl) ?_
          refine lv_iload_n hx hb zd_X9_score_78 rfl (lv_at hl 5 rfl) ?_
          replace hf := zo_b hf; obtain ⟨a26, na26, hf⟩ := hf
          refine W.eq (g2 := F0 m 79 ls [.int (x3), va_rf (r8), va_rf ((some a26))]) (by rw [na26] <;> rfl) ?_
          replace hf := zo_b hf; obtain ⟨r27, er27, hf⟩ := hf
          refine zw_callV (n := 2) (ci := 8) (q := zc_cl[8]) (As := [va_rf (r8), .int (x3)]) (rest := []) S hK hw (zt_X8_isPlace l g r22.1 a26 r8 x3 _ er27) zm_892 zm_893 zm_894 zq_X8_isPlace zm_75 (by decide +kernel) ⟨Nat.le_of_ble_eq_true rfl, Nat.le_of_ble_eq_true rfl⟩ rfl rfl rfl (zi_X8_isPlace er27) hl.1 rfl (by simp [zv_cat, zv_ci, zv_cj]) zd_X9_score_79 ⟨(by show (((0 + 0) + 0) + 17) + (0 : Nat) ≤ (17 : Nat); omega), (by show (((0 + 0) + 0) + 680) + (0 : Nat) ≤ (680 : Nat); omega)⟩ (fun H locs hw => ?_)
          replace hw : zc_W g r22.1 H locs := hw
          refine W.widen (k := ((((0 + 0) + 0) + 17) + 0)) (n := ((((0 + 0) + 0) + 680) + 0)) (Nat.le_refl _) (Nat.le_refl _) ?_
          refine lv_if_ne (tgt := 92) hx hb zd_X9_score_82 (by decide) (fun c28 => ?_) (fun c28 => ?_)
          · replace hf := zo_f c28 hf
            refine zl_aload_n hx hb zd_X9_score_92 rfl (lv_at hl 2 rfl) ?_
            replace hf := zo_b hf; obtain ⟨v29, ev29, hf⟩ := hf
            obtain ⟨u30, u30e, u30v⟩ := zo_b ev29
            obtain rfl := zv_r_e u30v
            refine zw_get S hK hw zk_9 (k := 8) (by decide) rfl zm_315 (Or.inl rfl) u30e zd_X9_score_93 ?_
            refine zl_aload hx hb zd_X9_score_96 (lv_at hl 0 rfl) ?_
            refine lv_iload_n hx hb zd_X9_score_98 rfl (lv_at hl 5 rfl) ?_
            replace hf := zo_b hf; obtain ⟨a31, na31, hf⟩ := hf
            refine W.eq (g2 := F0 m 99 ls [.int (x3), va_rf (r8), va_rf ((some a31))]) (by rw [na31] <;> rfl) ?_
            replace hf := zo_b hf; obtain ⟨r32, er32, hf⟩ := hf
            refine zw_callV (n := 2) (ci := 8) (q := zc_cl[8]) (As := [va_rf (r8), .int (x3)]) (rest := []) S hK hw (zt_X8_scoreAt l g r22.1 a31 r8 x3 _ er32) zm_896 zm_879 zm_880 zq_X8_scoreAt zm_75 (by decide +kernel) ⟨Nat.le_of_ble_eq_true rfl, Nat.le_of_ble_eq_true rfl⟩ rfl rfl rfl (zi_X8_scoreAt er32) hl.1 rfl (by simp [zv_cat, zv_ci, zv_cj]) zd_X9_score_99 ⟨(by show ((((0 + 0) + 0) + 17) + 0) + (0 : Nat) ≤ (17 : Nat); omega), (by show ((((0 + 0) + 0) + 680) + 0) + (0 : Nat) ≤ (680 : Nat); omega)⟩ (fun H locs hw => ?_)
            replace hw : zc_W g r22.1 H locs := hw
            refine W.widen (k := (((((0 + 0) + 0) + 17) + 0) + 0)) (n := (((((0 + 0) + 0) + 680) + 0) + 0)) (Nat.le_refl _) (Nat.le_refl _) ?_
            have hres := Option.some.inj hf; subst hres
            exact zw_iret (v := r32) (ty := .int) hx hb hr hlk rfl hw zd_X9_score_102 (by show _ ≤ (17 : Nat); omega) (by show _ ≤ (680 : Nat); omega)
          · replace hf := zo_t c28 hf
            refine zl_aload_n hx hb zd_X9_score_85 rfl (lv_at hl 2 rfl) ?_
            refine lv_bipush (v := (-5)) hx hb zd_X9_score_86 (by decide) ?_
            replace hf := zo_b hf; obtain ⟨r33, er33, hf⟩ := hf
            refine zw_callV (n := 1) (ci := 9) (q := zc_cl[9]) (As := [.int ((-5))]) (rest := []) S hK hw (zt_X9_refuse l g r22.1 q (-5) _ er33) zm_349 zm_351 zm_1 zq_X9_refuse zm_68 (by decide +kernel) ⟨Nat.le_of_ble_eq_true rfl, Nat.le_of_ble_eq_true rfl⟩ rfl rfl rfl (zi_X9_refuse er33) hl.1 rfl (by simp [zv_cat, zv_ci, zv_cj]) zd_X9_score_88 ⟨(by show ((((0 + 0) + 0) + 17) + 0) + (0 : Nat) ≤ (17 : Nat); omega), (by show ((((0 + 0) + 0) + 680) + 0) + (0 : Nat) ≤ (680 : Nat); omega)⟩ (fun H locs hw => ?_)
            replace hw : zc_W g r33.1 H locs := hw
            refine W.widen (k := (((((0 + 0) + 0) + 17) + 0) + 0)) (n := (((((0 + 0) + 0) + 680) + 0) + 0)) (Nat.le_refl _) (Nat.le_refl _) ?_
            have hres := Option.some.inj hf; subst hres
            exact zw_iret (v := r33.2) (ty := .int) hx hb hr hlk rfl hw zd_X9_score_91 (by show _ ≤ (17 : Nat); omega) (by show _ ≤ (680 : Nat); omega)
        · replace hf := zo_t c23 hf
          refine zl_aload_n hx hb zd_X9_score_65 rfl (lv_at hl 2 rfl) ?_
          refine lv_bipush (v := (-6)) hx hb zd_X9_score_66 (by decide) ?_
          replace hf := zo_b hf; obtain ⟨r34, er34, hf⟩ := hf
          refine zw_callV (n := 1) (ci := 9) (q := zc_cl[9]) (As := [.int ((-6))]) (rest := []) S hK hw (zt_X9_refuse l g r22.1 q (-6) _ er34) zm_349 zm_351 zm_1 zq_X9_refuse zm_68 (by decide +kernel) ⟨Nat.le_of_ble_eq_true rfl, Nat.le_of_ble_eq_true rfl⟩ rfl rfl rfl (zi_X9_refuse er34) hl.1 rfl (by simp [zv_cat, zv_ci, zv_cj]) zd_X9_score_68 ⟨(by show (((0 + 0) + 0) + 17) + (0 : Nat) ≤ (17 : Nat); omega), (by show (((0 + 0) + 0) + 680) + (0 : Nat) ≤ (680 : Nat); omega)⟩ (fun H locs hw => ?_)
          replace hw : zc_W g r34.1 H locs := hw
          refine W.widen (k := ((((0 + 0) + 0) + 17) + 0)) (n := ((((0 + 0) + 0) + 680) + 0)) (Nat.le_refl _) (Nat.le_refl _) ?_
          have hres := Option.some.inj hf; subst hres
          exact zw_iret (v := r34.2) (ty := .int) hx hb hr hlk rfl hw zd_X9_score_71 (by show _ ≤ (17 : Nat); omega) (by show _ ≤ (680 : Nat); omega)
    · replace hf := zo_t c11 hf
      exact k30h () _ _ _ hf hw (lv_sub hl [2] rfl)
def zf_X9_leastNeed (h : zc_H) (q : Nat) (x1 : Int32) (x2 : Int32) : Option (zc_H × Int32) :=
  if ¬ zf_is h q 9 = true then none else
  (zf_gr h q 9 1).bind fun v1 =>
  v1.bind fun a3 =>
  (zf_X6_remarkAt h a3 x1).bind fun r4 =>
  (zf_gr h q 9 1).bind fun v5 =>
  v5.bind fun a7 =>
  (zf_X6_revisionAt h a7 x2).bind fun r8 =>
  let k28 := fun (_ : Unit) =>
    (zf_X9_refuse h q (-11)).bind fun r10 =>
    some (r10.1, r10.2)
  if r4 = none then
    k28 ()
  else
  if r8 = none then
    k28 ()
  else
  r4.bind fun a12 =>
  (zf_gr h a12 3 3).bind fun v13 =>
  if r8 = v13 then
    (zf_X9_refuse h q (-16)).bind fun r16 =>
    some (r16.1, r16.2)
  else
  (zf_gr h q 9 8).bind fun v17 =>
  (zf_gi h a12 3 1).bind fun v19 =>
  v17.bind fun a21 =>
  (zf_X8_putOn h a21 r4 v19 r8).bind fun r22 =>
  if r22.2 = 0 then
    (zf_X9_refuse r22.1 q (-16)).bind fun r38 =>
    some (r38.1, r38.2)
  else
  (zf_gr r22.1 q 9 8).bind fun v24 =>
  v24.bind fun a26 =>
  (zf_X8_weigh r22.1 a26 r8).bind fun r27 =>
  (zf_gr r27 q 9 8).bind fun v28 =>
  v28.bind fun a30 =>
  (zf_X8_keepsMargin r27 a30).bind fun r31 =>
  if r31 = 0 then
    some (r27, (-1))
  else
  (zf_gr r27 q 9 8).bind fun v33 =>
  v33.bind fun a35 =>
  (zf_gi r27 a35 8 6).bind fun v36 =>
  some (r27, v36)
abbrev zr_X9_leastNeed : Room := { frames := 10, cells := 17, slots := 680, locals := 277 }
theorem zi_X9_leastNeed {h : zc_H} {q : Nat} {x1 : Int32} {x2 : Int32} {res : zc_H × Int32} (hf : zf_X9_leastNeed h q x1 x2 = some res) : zf_is h q 9 = true := Decidable.not_not.mp (zo_n hf).1
set_option maxHeartbeats 4000000 in
set_option maxRecDepth 20000 in
theorem zt_X9_leastNeed (l : Launch) (g : zc_G) (h : zc_H) (q : Nat) (x1 : Int32) (x2 : Int32) (res : zc_H × Int32) (hf : zf_X9_leastNeed h q x1 x2 = some res) : zc_M l g yX9_leastNeed cX9_leastNeed 5 (some .int) zr_X9_leastNeed h [va_rf ((some q)), .int (x1), .int (x2)] res.1 (some (.int (res.2))) := by
  refine zc_M.of (by decide) (by simp [lg_sl, zv_cat, zv_ci, zv_cj]) ?_
  intro p e s m below meth c ls S hK hw hr hlk hnm hl
  replace S : CallFix p m c cX9_leastNeed 5 s [va_rf ((some q)), .int (x1), .int (x2)].toArray (zc_ws yX9_leastNeed cX9_leastNeed 5 (some .int)) RX9 := S
  have hx := S.1
  have hb := S.2.1
  replace hl : lv_has ls 5 [(0, va_rf ((some q))), (1, .int (x1)), (2, .int (x2))] := by simpa [lv_args, zv_cat, zv_ci, zv_cj] using hl
  generalize s.heap = H at hw ⊢
  obtain ⟨locs, hlocs⟩ : ∃ L : List Loc, L = [] := ⟨_, rfl⟩
  rw [← hlocs] at hw ⊢
  unfold zf_X9_leastNeed at hf
  obtain ⟨-, hf⟩ := zo_n hf
  refine zl_aload_n hx hb zd_X9_leastNeed_0 rfl (lv_at hl 0 rfl) ?_
  replace hf := zo_b hf; obtain ⟨v1, ev1, hf⟩ := hf
  obtain ⟨u2, u2e, u2v⟩ := zo_b ev1
  obtain rfl := zv_r_e u2v
  refine zw_get S hK hw zk_9 (k := 1) (by decide) rfl zm_308 (Or.inl rfl) u2e zd_X9_leastNeed_1 ?_
  refine lv_iload_n hx hb zd_X9_leastNeed_4 rfl (lv_at hl 1 rfl) ?_
  replace hf := zo_b hf; obtain ⟨a3, na3, hf⟩ := hf
  refine W.eq (g2 := F0 m 5 ls [.int (x1), va_rf ((some a3))]) (by rw [na3] <;> rfl) ?_
  replace hf := zo_b hf; obtain ⟨r4, er4, hf⟩ := hf
  refine zw_callV (n := 1) (ci := 6) (q := zc_cl[6]) (As := [.int (x1)]) (rest := []) S hK hw (zt_X6_remarkAt l g h a3 x1 _ er4) zm_420 zm_421 zm_422 zq_X6_remarkAt zm_69 (by decide +kernel) ⟨Nat.le_of_ble_eq_true rfl, Nat.le_of_ble_eq_true rfl⟩ rfl rfl rfl (zi_X6_remarkAt er4) hl.1 rfl (by simp [zv_cat, zv_ci, zv_cj]) zd_X9_leastNeed_5 ⟨(by show 0 + (0 : Nat) ≤ (17 : Nat); omega), (by show 0 + (0 : Nat) ≤ (680 : Nat); omega)⟩ (fun H locs hw => ?_)
  replace hw : zc_W g h H locs := hw
  refine W.widen (k := (0 + 0)) (n := (0 + 0)) (Nat.le_refl _) (Nat.le_refl _) ?_
  refine zl_astore_n (i := 3) (lv' := [(3, va_rf (r4)), (0, va_rf ((some q))), (1, .int (x1)), (2, .int (x2))]) hx hb zd_X9_leastNeed_8 rfl hl (by decide) rfl (fun ls hl => ?_)
  refine zl_aload_n hx hb zd_X9_leastNeed_9 rfl (lv_at hl 1 rfl) ?_
  replace hf := zo_b hf; obtain ⟨v5, ev5, hf⟩ := hf
  obtain ⟨u6, u6e, u6v⟩ := zo_b ev5
  obtain rfl := zv_r_e u6v
  refine zw_get S hK hw zk_9 (k := 1) (by decide) rfl zm_308 (Or.inl rfl) u6e zd_X9_leastNeed_10 ?_
  refine lv_iload_n hx hb zd_X9_leastNeed_13 rfl (lv_at hl 3 rfl) ?_
  replace hf := zo_b hf; obtain ⟨a7, na7, hf⟩ := hf
  refine W.eq (g2 := F0 m 14 ls [.int (x2), va_rf ((some a7))]) (by rw [na7] <;> rfl) ?_
  replace hf := zo_b hf; obtain ⟨r8, er8, hf⟩ := hf
  refine zw_callV (n := 1) (ci := 6) (q := zc_cl[6]) (As := [.int (x2)]) (rest := []) S hK hw (zt_X6_revisionAt l g h a7 x2 _ er8) zm_482 zm_483 zm_484 zq_X6_revisionAt zm_69 (by decide +kernel) ⟨Nat.le_of_ble_eq_true rfl, Nat.le_of_ble_eq_true rfl⟩ rfl rfl rfl (zi_X6_revisionAt er8) hl.1 rfl (by simp [zv_cat, zv_ci, zv_cj]) zd_X9_leastNeed_14 ⟨(by show (0 + 0) + (0 : Nat) ≤ (17 : Nat); omega), (by show (0 + 0) + (0 : Nat) ≤ (680 : Nat); omega)⟩ (fun H locs hw => ?_)
  replace hw : zc_W g h H locs := hw
  refine W.widen (k := ((0 + 0) + 0)) (n := ((0 + 0) + 0)) (Nat.le_refl _) (Nat.le_refl _) ?_
  refine zl_astore (i := 4) (lv' := [(4, va_rf (r8)), (3, va_rf (r4)), (0, va_rf ((some q))), (1, .int (x1)), (2, .int (x2))]) hx hb zd_X9_leastNeed_17 hl (by decide) (by simp [List.filter, zv_cat, zv_ci, zv_cj]) (fun ls hl => ?_)
  refine zl_aload_n hx hb zd_X9_leastNeed_19 rfl (lv_at hl 1 rfl) ?_
  have k28h : ∀ (_ : Unit) (H : Heap) (locs : List Loc) (ls : Array Slot), (
      (zf_X9_refuse h q (-11)).bind fun r10 =>
      some (r10.1, r10.2)
      ) = some res → zc_W g h H locs → lv_has ls 5 [(0, va_rf ((some q)))] → W p l e zr_X9_leastNeed s m [va_rf ((some q)), .int (x1), .int (x2)].toArray below meth c H locs ((0 + 0) + 0) ((0 + 0) + 0) (zc_Q g below zr_X9_leastNeed (some (.int (res.2))) res.1 [va_rf ((some q)), .int (x1), .int (x2)] s) (F0 m 28 ls []) := by
    intro _ H locs ls hf hw hl
    refine zl_aload_n hx hb zd_X9_leastNeed_28 rfl (lv_at hl 0 rfl) ?_
    refine lv_bipush (v := (-11)) hx hb zd_X9_leastNeed_29 (by decide) ?_
    replace hf := zo_b hf; obtain ⟨r10, er10, hf⟩ := hf
    refine zw_callV (n := 1) (ci := 9) (q := zc_cl[9]) (As := [.int ((-11))]) (rest := []) S hK hw (zt_X9_refuse l g h q (-11) _ er10) zm_349 zm_351 zm_1 zq_X9_refuse zm_68 (by decide +kernel) ⟨Nat.le_of_ble_eq_true rfl, Nat.le_of_ble_eq_true rfl⟩ rfl rfl rfl (zi_X9_refuse er10) hl.1 rfl (by simp [zv_cat, zv_ci, zv_cj]) zd_X9_leastNeed_31 ⟨(by show ((0 + 0) + 0) + (0 : Nat) ≤ (17 : Nat); omega), (by show ((0 + 0) + 0) + (0 : Nat) ≤ (680 : Nat); omega)⟩ (fun H locs hw => ?_)
    replace hw : zc_W g r10.1 H locs := hw
    refine W.widen (k := (((0 + 0) + 0) + 0)) (n := (((0 + 0) + 0) + 0)) (Nat.le_refl _) (Nat.le_refl _) ?_
    have hres := Option.some.inj hf; subst hres
    exact zw_iret (v := r10.2) (ty := .int) hx hb hr hlk rfl hw zd_X9_leastNeed_34 (by show _ ≤ (17 : Nat); omega) (by show _ ≤ (680 : Nat); omega)
  refine zl_ifnull (tgt := 28) hx hb zd_X9_leastNeed_20 (by decide) (fun c9 => ?_) (fun c9 => ?_)
  · replace hf := zo_t c9 hf
    exact k28h () _ _ _ hf hw (lv_sub hl [2] rfl)
  · replace hf := zo_f c9 hf
    refine zl_aload hx hb zd_X9_leastNeed_23 (lv_at hl 0 rfl) ?_
    refine zl_ifnonnull (tgt := 35) hx hb zd_X9_leastNeed_25 (by decide) (fun c11 => ?_) (fun c11 => ?_)
    · replace hf := zo_f c11 hf
      refine zl_aload hx hb zd_X9_leastNeed_35 (lv_at hl 0 rfl) ?_
      refine zl_aload_n hx hb zd_X9_leastNeed_37 rfl (lv_at hl 1 rfl) ?_
      replace hf := zo_b hf; obtain ⟨a12, na12, hf⟩ := hf
      refine W.eq (g2 := F0 m 38 ls [va_rf ((some a12)), va_rf (r8)]) (by rw [na12] <;> rfl) ?_
      replace hf := zo_b hf; obtain ⟨v13, ev13, hf⟩ := hf
      obtain ⟨u14, u14e, u14v⟩ := zo_b ev13
      obtain rfl := zv_r_e u14v
      refine zw_get S hK hw zk_3 (k := 3) (by decide) rfl zm_768 (Or.inl rfl) u14e zd_X9_leastNeed_38 ?_
      refine lv_acmp_eq (tgt := 61) hx hb zd_X9_leastNeed_41 (by decide) (fun c15 => ?_) (fun c15 => ?_)
      · replace hf := zo_t c15 hf
        refine zl_aload_n hx hb zd_X9_leastNeed_61 rfl (lv_at hl 2 rfl) ?_
        refine lv_bipush (v := (-16)) hx hb zd_X9_leastNeed_62 (by decide) ?_
        replace hf := zo_b hf; obtain ⟨r16, er16, hf⟩ := hf
        refine zw_callV (n := 1) (ci := 9) (q := zc_cl[9]) (As := [.int ((-16))]) (rest := []) S hK hw (zt_X9_refuse l g h q (-16) _ er16) zm_349 zm_351 zm_1 zq_X9_refuse zm_68 (by decide +kernel) ⟨Nat.le_of_ble_eq_true rfl, Nat.le_of_ble_eq_true rfl⟩ rfl rfl rfl (zi_X9_refuse er16) hl.1 rfl (by simp [zv_cat, zv_ci, zv_cj]) zd_X9_leastNeed_64 ⟨(by show ((0 + 0) + 0) + (0 : Nat) ≤ (17 : Nat); omega), (by show ((0 + 0) + 0) + (0 : Nat) ≤ (680 : Nat); omega)⟩ (fun H locs hw => ?_)
        replace hw : zc_W g r16.1 H locs := hw
        refine W.widen (k := (((0 + 0) + 0) + 0)) (n := (((0 + 0) + 0) + 0)) (Nat.le_refl _) (Nat.le_refl _) ?_
        have hres := Option.some.inj hf; subst hres
        exact zw_iret (v := r16.2) (ty := .int) hx hb hr hlk rfl hw zd_X9_leastNeed_67 (by show _ ≤ (17 : Nat); omega) (by show _ ≤ (680 : Nat); omega)
      · replace hf := zo_f c15 hf
        refine zl_aload_n hx hb zd_X9_leastNeed_44 rfl (lv_at hl 2 rfl) ?_
        replace hf := zo_b hf; obtain ⟨v17, ev17, hf⟩ := hf
        obtain ⟨u18, u18e, u18v⟩ := zo_b ev17
        obtain rfl := zv_r_e u18v
        refine zw_get S hK hw zk_9 (k := 8) (by decide) rfl zm_315 (Or.inl rfl) u18e zd_X9_leastNeed_45 ?_
        refine zl_aload_n hx hb zd_X9_leastNeed_48 rfl (lv_at hl 1 rfl) ?_
        refine zl_aload_n hx hb zd_X9_leastNeed_49 rfl (lv_at hl 1 rfl) ?_
        refine W.eq (g2 := F0 m 50 ls [va_rf ((some a12)), va_rf (r4), va_rf (v17)]) (by rw [na12] <;> rfl) ?_
        replace hf := zo_b hf; obtain ⟨v19, ev19, hf⟩ := hf
        obtain ⟨u20, u20e, u20v⟩ := zo_b ev19
        obtain rfl := zv_i_e u20v
        refine zw_get S hK hw zk_3 (k := 1) (by decide) rfl zm_761 (Or.inl rfl) u20e zd_X9_leastNeed_50 ?_
        refine zl_aload hx hb zd_X9_leastNeed_53 (lv_at hl 0 rfl) ?_
        replace hf := zo_b hf; obtain ⟨a21, na21, hf⟩ := hf
        refine W.eq (g2 := F0 m 55 ls [va_rf (r8), .int (v19), va_rf (r4), va_rf ((some a21))]) (by rw [na21] <;> rfl) ?_
        replace hf := zo_b hf; obtain ⟨r22, er22, hf⟩ := hf
        refine zw_callV (n := 3) (ci := 8) (q := zc_cl[8]) (As := [va_rf (r4), .int (v19), va_rf (r8)]) (rest := []) S hK hw (zt_X8_putOn l g h a21 r4 v19 r8 _ er22) zm_824 zm_825 zm_826 zq_X8_putOn zm_75 (by decide +kernel) ⟨Nat.le_of_ble_eq_true rfl, Nat.le_of_ble_eq_true rfl⟩ rfl rfl rfl (zi_X8_putOn er22) hl.1 rfl (by simp [zv_cat, zv_ci, zv_cj]) zd_X9_leastNeed_55 ⟨(by show ((0 + 0) + 0) + (17 : Nat) ≤ (17 : Nat); omega), (by show ((0 + 0) + 0) + (680 : Nat) ≤ (680 : Nat); omega)⟩ (fun H locs hw => ?_)
        replace hw : zc_W g r22.1 H locs := hw
        refine W.widen (k := (((0 + 0) + 0) + 17)) (n := (((0 + 0) + 0) + 680)) (Nat.le_refl _) (Nat.le_refl _) ?_
        refine lv_if_ne (tgt := 68) hx hb zd_X9_leastNeed_58 (by decide) (fun c23 => ?_) (fun c23 => ?_)
        · replace hf := zo_f c23 hf
          refine zl_aload_n hx hb zd_X9_leastNeed_68 rfl (lv_at hl 2 rfl) ?_
          replace hf := zo_b hf; obtain ⟨v24, ev24, hf⟩ := hf
          obtain ⟨u25, u25e, u25v⟩ := zo_b ev24
          obtain rfl := zv_r_e u25v
          refine zw_get S hK hw zk_9 (k := 8) (by decide) rfl zm_315 (Or.inl rfl) u25e zd_X9_leastNeed_69 ?_
          refine zl_aload hx hb zd_X9_leastNeed_72 (lv_at hl 0 rfl) ?_
          replace hf := zo_b hf; obtain ⟨a26, na26, hf⟩ := hf
          refine W.eq (g2 := F0 m 74 ls [va_rf (r8), va_rf ((some a26))]) (by rw [na26] <;> rfl) ?_
          replace hf := zo_b hf; obtain ⟨r27, er27, hf⟩ := hf
          refine zw_callV (n := 1) (ci := 8) (q := zc_cl[8]) (As := [va_rf (r8)]) (rest := []) S hK hw (zt_X8_weigh l g r22.1 a26 r8 _ er27) zm_901 zm_874 zm_875 zq_X8_weigh zm_75 (by decide +kernel) ⟨Nat.le_of_ble_eq_true rfl, Nat.le_of_ble_eq_true rfl⟩ rfl rfl rfl (zi_X8_weigh er27) hl.1 rfl (by simp [zv_cat, zv_ci, zv_cj]) zd_X9_leastNeed_74 ⟨(by show (((0 + 0) + 0) + 17) + (0 : Nat) ≤ (17 : Nat); omega), (by show (((0 + 0) + 0) + 680) + (0 : Nat) ≤ (680 : Nat); omega)⟩ (fun H locs hw => ?_)
          replace hw : zc_W g r27 H locs := hw
          refine W.widen (k := ((((0 + 0) + 0) + 17) + 0)) (n := ((((0 + 0) + 0) + 680) + 0)) (Nat.le_refl _) (Nat.le_refl _) ?_
          refine zl_aload_n hx hb zd_X9_leastNeed_77 rfl (lv_at hl 2 rfl) ?_
          replace hf := zo_b hf; obtain ⟨v28, ev28, hf⟩ := hf
          obtain ⟨u29, u29e, u29v⟩ := zo_b ev28
          obtain rfl := zv_r_e u29v
          refine zw_get S hK hw zk_9 (k := 8) (by decide) rfl zm_315 (Or.inl rfl) u29e zd_X9_leastNeed_78 ?_
          replace hf := zo_b hf; obtain ⟨a30, na30, hf⟩ := hf
          refine W.eq (g2 := F0 m 81 ls [va_rf ((some a30))]) (by rw [na30] <;> rfl) ?_
          replace hf := zo_b hf; obtain ⟨r31, er31, hf⟩ := hf
          refine zw_callV (n := 0) (ci := 8) (q := zc_cl[8]) (As := []) (rest := []) S hK hw (zt_X8_keepsMargin l g r27 a30 _ er31) zm_902 zm_884 zm_885 zq_X8_keepsMargin zm_75 (by decide +kernel) ⟨Nat.le_of_ble_eq_true rfl, Nat.le_of_ble_eq_true rfl⟩ rfl rfl rfl (zi_X8_keepsMargin er31) hl.1 rfl (by simp [zv_cat, zv_ci, zv_cj]) zd_X9_leastNeed_81 ⟨(by show ((((0 + 0) + 0) + 17) + 0) + (0 : Nat) ≤ (17 : Nat); omega), (by show ((((0 + 0) + 0) + 680) + 0) + (0 : Nat) ≤ (680 : Nat); omega)⟩ (fun H locs hw => ?_)
          replace hw : zc_W g r27 H locs := hw
          refine W.widen (k := (((((0 + 0) + 0) + 17) + 0) + 0)) (n := (((((0 + 0) + 0) + 680) + 0) + 0)) (Nat.le_refl _) (Nat.le_refl _) ?_
          refine lv_if_eq (tgt := 97) hx hb zd_X9_leastNeed_84 (by decide) (fun c32 => ?_) (fun c32 => ?_)
          · replace hf := zo_t c32 hf
            refine lv_iconst (v := (-1)) hx hb zd_X9_leastNeed_97 (by decide) ?_
            have hres := Option.some.inj hf; subst hres
            exact zw_iret (v := (-1)) (ty := .int) hx hb hr hlk rfl hw zd_X9_leastNeed_98 (by show _ ≤ (17 : Nat); omega) (by show _ ≤ (680 : Nat); omega)
          · replace hf := zo_f c32 hf
            refine zl_aload_n hx hb zd_X9_leastNeed_87 rfl (lv_at hl 2 rfl) ?_
            replace hf := zo_b hf; obtain ⟨v33, ev33, hf⟩ := hf
            obtain ⟨u34, u34e, u34v⟩ := zo_b ev33
            obtain rfl := zv_r_e u34v
            refine zw_get S hK hw zk_9 (k := 8) (by decide) rfl zm_315 (Or.inl rfl) u34e zd_X9_leastNeed_88 ?_
            replace hf := zo_b hf; obtain ⟨a35, na35, hf⟩ := hf
            refine W.eq (g2 := F0 m 91 ls [va_rf ((some a35))]) (by rw [na35] <;> rfl) ?_
            replace hf := zo_b hf; obtain ⟨v36, ev36, hf⟩ := hf
            obtain ⟨u37, u37e, u37v⟩ := zo_b ev36
            obtain rfl := zv_i_e u37v
            refine zw_get S hK hw zk_8 (k := 6) (by decide) rfl zm_220 (Or.inl rfl) u37e zd_X9_leastNeed_91 ?_
            refine lv_goto (tgt := 98) hx hb zd_X9_leastNeed_94 (by decide) ?_
            have hres := Option.some.inj hf; subst hres
            exact zw_iret (v := v36) (ty := .int) hx hb hr hlk rfl hw zd_X9_leastNeed_98 (by show _ ≤ (17 : Nat); omega) (by show _ ≤ (680 : Nat); omega)
        · replace hf := zo_t c23 hf
          refine zl_aload_n hx hb zd_X9_leastNeed_61 rfl (lv_at hl 2 rfl) ?_
          refine lv_bipush (v := (-16)) hx hb zd_X9_leastNeed_62 (by decide) ?_
          replace hf := zo_b hf; obtain ⟨r38, er38, hf⟩ := hf
          refine zw_callV (n := 1) (ci := 9) (q := zc_cl[9]) (As := [.int ((-16))]) (rest := []) S hK hw (zt_X9_refuse l g r22.1 q (-16) _ er38) zm_349 zm_351 zm_1 zq_X9_refuse zm_68 (by decide +kernel) ⟨Nat.le_of_ble_eq_true rfl, Nat.le_of_ble_eq_true rfl⟩ rfl rfl rfl (zi_X9_refuse er38) hl.1 rfl (by simp [zv_cat, zv_ci, zv_cj]) zd_X9_leastNeed_64 ⟨(by show (((0 + 0) + 0) + 17) + (0 : Nat) ≤ (17 : Nat); omega), (by show (((0 + 0) + 0) + 680) + (0 : Nat) ≤ (680 : Nat); omega)⟩ (fun H locs hw => ?_)
          replace hw : zc_W g r38.1 H locs := hw
          refine W.widen (k := ((((0 + 0) + 0) + 17) + 0)) (n := ((((0 + 0) + 0) + 680) + 0)) (Nat.le_refl _) (Nat.le_refl _) ?_
          have hres := Option.some.inj hf; subst hres
          exact zw_iret (v := r38.2) (ty := .int) hx hb hr hlk rfl hw zd_X9_leastNeed_67 (by show _ ≤ (17 : Nat); omega) (by show _ ≤ (680 : Nat); omega)
    · replace hf := zo_t c11 hf
      exact k28h () _ _ _ hf hw (lv_sub hl [2] rfl)
def zf_X9_fitting_L59 (q : Nat) (y3 : Option Nat) (y4 : Option Nat) : Nat → zc_H → Int32 → Int32 → Option (zc_H × Int32)
  | 0, _, _, _ => none
  | n + 1, h, y5, y6 =>
    if 7 ≤ y6 then
      some (h, y5)
    else
    (zf_gr h q 9 8).bind fun v19 =>
    v19.bind fun a21 =>
    (zf_X8_putOn h a21 y3 y6 y4).bind fun r22 =>
    let k101 := fun (y101_5 : Int32) =>
      zf_X9_fitting_L59 q y3 y4 n r22.1 y101_5 (y6 + 1)
    if r22.2 = 0 then
      k101 y5
    else
    (zf_gr r22.1 q 9 8).bind fun v24 =>
    v24.bind fun a26 =>
    (zf_gi r22.1 a26 8 3).bind fun v27 =>
    if v27 = 3 then
      k101 y5
    else
    k101 (y5 ||| (1 <<< (y6 &&& 31)))
def zf_X9_fitting (h : zc_H) (q : Nat) (x1 : Int32) (x2 : Int32) : Option (zc_H × Int32) :=
  if ¬ zf_is h q 9 = true then none else
  (zf_gr h q 9 1).bind fun v1 =>
  v1.bind fun a3 =>
  (zf_X6_remarkAt h a3 x1).bind fun r4 =>
  (zf_gr h q 9 1).bind fun v5 =>
  v5.bind fun a7 =>
  (zf_X6_revisionAt h a7 x2).bind fun r8 =>
  let k28 := fun (_ : Unit) =>
    (zf_X9_refuse h q (-1)).bind fun r10 =>
    some (r10.1, r10.2)
  if r4 = none then
    k28 ()
  else
  if r8 = none then
    k28 ()
  else
  r4.bind fun a12 =>
  (zf_gr h a12 3 3).bind fun v13 =>
  r8.bind fun a15 =>
  (zf_X4_isBehind h a15 v13).bind fun r16 =>
  if r16 = 0 then
    (zf_X9_refuse h q (-6)).bind fun r33 =>
    some (r33.1, r33.2)
  else
  (zf_X9_fitting_L59 q r4 r8 8 h 0 0).bind fun w30 =>
  some (w30.1, w30.2)
abbrev zr_X9_fitting : Room := { frames := 10, cells := 136, slots := 5440, locals := 277 }
theorem zi_X9_fitting {h : zc_H} {q : Nat} {x1 : Int32} {x2 : Int32} {res : zc_H × Int32} (hf : zf_X9_fitting h q x1 x2 = some res) : zf_is h q 9 = true := Decidable.not_not.mp (zo_n hf).1
set_option maxHeartbeats 4000000 in
set_option maxRecDepth 20000 in
theorem zt_X9_fitting (l : Launch) (g : zc_G) (h : zc_H) (q : Nat) (x1 : Int32) (x2 : Int32) (res : zc_H × Int32) (hf : zf_X9_fitting h q x1 x2 = some res) : zc_M l g yX9_fitting cX9_fitting 7 (some .int) zr_X9_fitting h [va_rf ((some q)), .int (x1), .int (x2)] res.1 (some (.int (res.2))) := by
  refine zc_M.of (by decide) (by simp [lg_sl, zv_cat, zv_ci, zv_cj]) ?_
  intro p e s m below meth c ls S hK hw hr hlk hnm hl
  replace S : CallFix p m c cX9_fitting 7 s [va_rf ((some q)), .int (x1), .int (x2)].toArray (zc_ws yX9_fitting cX9_fitting 7 (some .int)) RX9 := S
  have hx := S.1
  have hb := S.2.1
  replace hl : lv_has ls 7 [(0, va_rf ((some q))), (1, .int (x1)), (2, .int (x2))] := by simpa [lv_args, zv_cat, zv_ci, zv_cj] using hl
  generalize s.heap = H at hw ⊢
  obtain ⟨locs, hlocs⟩ : ∃ L : List Loc, L = [] := ⟨_, rfl⟩
  rw [← hlocs] at hw ⊢
  have L59 : ∀ (y3 : Option Nat) (y4 : Option Nat) (n : Nat) (h : zc_H) (y5 : Int32) (y6 : Int32) (w : zc_H × Int32) (H : Heap) (locs : List Loc) (ls : Array Slot) (cl sl : Nat), cl + n * 17 ≤ 136 → sl + n * 680 ≤ 5440 → zf_X9_fitting_L59 q y3 y4 n h y5 y6 = some w → zc_W g h H locs → lv_has ls 7 [(0, va_rf ((some q))), (3, va_rf (y3)), (4, va_rf (y4)), (5, .int (y5)), (6, .int (y6))] → (∀ (H : Heap) (locs : List Loc) (ls : Array Slot) (cl1 sl1 : Nat), cl1 ≤ cl + n * 17 → sl1 ≤ sl + n * 680 → zc_W g w.1 H locs → lv_has ls 7 [(5, .int (w.2))] → W p l e zr_X9_fitting s m [va_rf ((some q)), .int (x1), .int (x2)].toArray below meth c H locs cl1 sl1 (zc_Q g below zr_X9_fitting (some (.int (res.2))) res.1 [va_rf ((some q)), .int (x1), .int (x2)] s) (F0 m 107 ls [])) → W p l e zr_X9_fitting s m [va_rf ((some q)), .int (x1), .int (x2)].toArray below meth c H locs cl sl (zc_Q g below zr_X9_fitting (some (.int (res.2))) res.1 [va_rf ((some q)), .int (x1), .int (x2)] s) (F0 m 59 ls []) := by
    intro y3 y4 n
    induction n with
    | zero =>
      intro h y5 y6 w H locs ls cl sl hcl hsl hf
      cases hf
    | succ n ih =>
      intro h y5 y6 w H locs ls cl sl hcl hsl hf hw hl  kk
      unfold zf_X9_fitting_L59 at hf
      refine lv_iload hx hb zd_X9_fitting_59 (lv_at hl 4 rfl) ?_
      refine lv_bipush (v := 7) hx hb zd_X9_fitting_61 (by decide) ?_
      refine lv_icmp_ge (tgt := 107) hx hb zd_X9_fitting_63 (by decide) (fun c18 => ?_) (fun c18 => ?_)
      · replace hf := zo_t c18 hf
        have hres := Option.some.inj hf; subst hres
        exact kk _ _ _ _ _ (by omega) (by omega) hw (lv_sub hl [3] rfl)
      · replace hf := zo_f c18 hf
        refine zl_aload_n hx hb zd_X9_fitting_66 rfl (lv_at hl 0 rfl) ?_
        replace hf := zo_b hf; obtain ⟨v19, ev19, hf⟩ := hf
        obtain ⟨u20, u20e, u20v⟩ := zo_b ev19
        obtain rfl := zv_r_e u20v
        refine zw_get S hK hw zk_9 (k := 8) (by decide) rfl zm_315 (Or.inl rfl) u20e zd_X9_fitting_67 ?_
        refine zl_aload_n hx hb zd_X9_fitting_70 rfl (lv_at hl 1 rfl) ?_
        refine lv_iload hx hb zd_X9_fitting_71 (lv_at hl 4 rfl) ?_
        refine zl_aload hx hb zd_X9_fitting_73 (lv_at hl 2 rfl) ?_
        replace hf := zo_b hf; obtain ⟨a21, na21, hf⟩ := hf
        refine W.eq (g2 := F0 m 75 ls [va_rf (y4), .int (y6), va_rf (y3), va_rf ((some a21))]) (by rw [na21] <;> rfl) ?_
        replace hf := zo_b hf; obtain ⟨r22, er22, hf⟩ := hf
        refine zw_callV (n := 3) (ci := 8) (q := zc_cl[8]) (As := [va_rf (y3), .int (y6), va_rf (y4)]) (rest := []) S hK hw (zt_X8_putOn l g h a21 y3 y6 y4 _ er22) zm_824 zm_825 zm_826 zq_X8_putOn zm_75 (by decide +kernel) ⟨Nat.le_of_ble_eq_true rfl, Nat.le_of_ble_eq_true rfl⟩ rfl rfl rfl (zi_X8_putOn er22) hl.1 rfl (by simp [zv_cat, zv_ci, zv_cj]) zd_X9_fitting_75 ⟨(by show cl + (17 : Nat) ≤ (136 : Nat); omega), (by show sl + (680 : Nat) ≤ (5440 : Nat); omega)⟩ (fun H locs hw => ?_)
        replace hw : zc_W g r22.1 H locs := hw
        refine W.widen (k := (cl + 17)) (n := (sl + 680)) (Nat.le_refl _) (Nat.le_refl _) ?_
        have k101h : ∀ (y101_5 : Int32) (H : Heap) (locs : List Loc) (ls : Array Slot), (
            zf_X9_fitting_L59 q y3 y4 n r22.1 y101_5 (y6 + 1)
            ) = some w → zc_W g r22.1 H locs → lv_has ls 7 [(0, va_rf ((some q))), (3, va_rf (y3)), (4, va_rf (y4)), (5, .int (y101_5)), (6, .int (y6))] → W p l e zr_X9_fitting s m [va_rf ((some q)), .int (x1), .int (x2)].toArray below meth c H locs (cl + 17) (sl + 680) (zc_Q g below zr_X9_fitting (some (.int (res.2))) res.1 [va_rf ((some q)), .int (x1), .int (x2)] s) (F0 m 101 ls []) := by
          intro y101_5 H locs ls hf hw hl
          refine lv_iinc (i := 6) (v := (y6 + 1)) (lv' := [(6, .int ((y6 + 1))), (0, va_rf ((some q))), (3, va_rf (y3)), (4, va_rf (y4)), (5, .int (y101_5))]) hx hb zd_X9_fitting_101 hl (k := 4) rfl (congrArg (_ + ·) (by decide)) (by decide) rfl (fun ls hl => ?_)
          refine lv_goto (tgt := 59) hx hb zd_X9_fitting_104 (by decide) ?_
          exact ih r22.1 y101_5 (y6 + 1) _ _ _ _ _ _ (by omega) (by omega) hf hw (lv_sub hl [1, 2, 3, 4, 0] rfl) (fun H locs ls cl1 sl1 h1 h2 => kk H locs ls cl1 sl1 (by omega) (by omega))
        refine lv_if_eq (tgt := 101) hx hb zd_X9_fitting_78 (by decide) (fun c23 => ?_) (fun c23 => ?_)
        · replace hf := zo_t c23 hf
          exact k101h y5 _ _ _ hf hw (lv_sub hl [0, 1, 2, 3, 4] rfl)
        · replace hf := zo_f c23 hf
          refine zl_aload_n hx hb zd_X9_fitting_81 rfl (lv_at hl 0 rfl) ?_
          replace hf := zo_b hf; obtain ⟨v24, ev24, hf⟩ := hf
          obtain ⟨u25, u25e, u25v⟩ := zo_b ev24
          obtain rfl := zv_r_e u25v
          refine zw_get S hK hw zk_9 (k := 8) (by decide) rfl zm_315 (Or.inl rfl) u25e zd_X9_fitting_82 ?_
          replace hf := zo_b hf; obtain ⟨a26, na26, hf⟩ := hf
          refine W.eq (g2 := F0 m 85 ls [va_rf ((some a26))]) (by rw [na26] <;> rfl) ?_
          replace hf := zo_b hf; obtain ⟨v27, ev27, hf⟩ := hf
          obtain ⟨u28, u28e, u28v⟩ := zo_b ev27
          obtain rfl := zv_i_e u28v
          refine zw_get S hK hw zk_8 (k := 3) (by decide) rfl zm_216 (Or.inl rfl) u28e zd_X9_fitting_85 ?_
          refine lv_iconst (v := 3) hx hb zd_X9_fitting_88 (by decide) ?_
          refine lv_icmp_eq (tgt := 101) hx hb zd_X9_fitting_89 (by decide) (fun c29 => ?_) (fun c29 => ?_)
          · replace hf := zo_t c29 hf
            exact k101h y5 _ _ _ hf hw (lv_sub hl [0, 1, 2, 3, 4] rfl)
          · replace hf := zo_f c29 hf
            refine lv_iload hx hb zd_X9_fitting_92 (lv_at hl 3 rfl) ?_
            refine lv_iconst (v := 1) hx hb zd_X9_fitting_94 (by decide) ?_
            refine lv_iload hx hb zd_X9_fitting_95 (lv_at hl 4 rfl) ?_
            refine lv_ishl hx hb zd_X9_fitting_97 ?_
            refine lv_ior hx hb zd_X9_fitting_98 ?_
            refine lv_istore (i := 5) (lv' := [(5, .int ((y5 ||| (1 <<< (y6 &&& 31))))), (0, va_rf ((some q))), (3, va_rf (y3)), (4, va_rf (y4)), (6, .int (y6))]) hx hb zd_X9_fitting_99 hl (by decide) (by simp [List.filter, zv_cat, zv_ci, zv_cj]) (fun ls hl => ?_)
            exact k101h (y5 ||| (1 <<< (y6 &&& 31))) _ _ _ hf hw (lv_sub hl [1, 2, 3, 0, 4] rfl)
  unfold zf_X9_fitting at hf
  obtain ⟨-, hf⟩ := zo_n hf
  refine zl_aload_n hx hb zd_X9_fitting_0 rfl (lv_at hl 0 rfl) ?_
  replace hf := zo_b hf; obtain ⟨v1, ev1, hf⟩ := hf
  obtain ⟨u2, u2e, u2v⟩ := zo_b ev1
  obtain rfl := zv_r_e u2v
  refine zw_get S hK hw zk_9 (k := 1) (by decide) rfl zm_308 (Or.inl rfl) u2e zd_X9_fitting_1 ?_
  refine lv_iload_n hx hb zd_X9_fitting_4 rfl (lv_at hl 1 rfl) ?_
  replace hf := zo_b hf; obtain ⟨a3, na3, hf⟩ := hf
  refine W.eq (g2 := F0 m 5 ls [.int (x1), va_rf ((some a3))]) (by rw [na3] <;> rfl) ?_
  replace hf := zo_b hf; obtain ⟨r4, er4, hf⟩ := hf
  refine zw_callV (n := 1) (ci := 6) (q := zc_cl[6]) (As := [.int (x1)]) (rest := []) S hK hw (zt_X6_remarkAt l g h a3 x1 _ er4) zm_420 zm_421 zm_422 zq_X6_remarkAt zm_69 (by decide +kernel) ⟨Nat.le_of_ble_eq_true rfl, Nat.le_of_ble_eq_true rfl⟩ rfl rfl rfl (zi_X6_remarkAt er4) hl.1 rfl (by simp [zv_cat, zv_ci, zv_cj]) zd_X9_fitting_5 ⟨(by show 0 + (0 : Nat) ≤ (136 : Nat); omega), (by show 0 + (0 : Nat) ≤ (5440 : Nat); omega)⟩ (fun H locs hw => ?_)
  replace hw : zc_W g h H locs := hw
  refine W.widen (k := (0 + 0)) (n := (0 + 0)) (Nat.le_refl _) (Nat.le_refl _) ?_
  refine zl_astore_n (i := 3) (lv' := [(3, va_rf (r4)), (0, va_rf ((some q))), (1, .int (x1)), (2, .int (x2))]) hx hb zd_X9_fitting_8 rfl hl (by decide) rfl (fun ls hl => ?_)
  refine zl_aload_n hx hb zd_X9_fitting_9 rfl (lv_at hl 1 rfl) ?_
  replace hf := zo_b hf; obtain ⟨v5, ev5, hf⟩ := hf
  obtain ⟨u6, u6e, u6v⟩ := zo_b ev5
  obtain rfl := zv_r_e u6v
  refine zw_get S hK hw zk_9 (k := 1) (by decide) rfl zm_308 (Or.inl rfl) u6e zd_X9_fitting_10 ?_
  refine lv_iload_n hx hb zd_X9_fitting_13 rfl (lv_at hl 3 rfl) ?_
  replace hf := zo_b hf; obtain ⟨a7, na7, hf⟩ := hf
  refine W.eq (g2 := F0 m 14 ls [.int (x2), va_rf ((some a7))]) (by rw [na7] <;> rfl) ?_
  replace hf := zo_b hf; obtain ⟨r8, er8, hf⟩ := hf
  refine zw_callV (n := 1) (ci := 6) (q := zc_cl[6]) (As := [.int (x2)]) (rest := []) S hK hw (zt_X6_revisionAt l g h a7 x2 _ er8) zm_482 zm_483 zm_484 zq_X6_revisionAt zm_69 (by decide +kernel) ⟨Nat.le_of_ble_eq_true rfl, Nat.le_of_ble_eq_true rfl⟩ rfl rfl rfl (zi_X6_revisionAt er8) hl.1 rfl (by simp [zv_cat, zv_ci, zv_cj]) zd_X9_fitting_14 ⟨(by show (0 + 0) + (0 : Nat) ≤ (136 : Nat); omega), (by show (0 + 0) + (0 : Nat) ≤ (5440 : Nat); omega)⟩ (fun H locs hw => ?_)
  replace hw : zc_W g h H locs := hw
  refine W.widen (k := ((0 + 0) + 0)) (n := ((0 + 0) + 0)) (Nat.le_refl _) (Nat.le_refl _) ?_
  refine zl_astore (i := 4) (lv' := [(4, va_rf (r8)), (3, va_rf (r4)), (0, va_rf ((some q))), (1, .int (x1)), (2, .int (x2))]) hx hb zd_X9_fitting_17 hl (by decide) (by simp [List.filter, zv_cat, zv_ci, zv_cj]) (fun ls hl => ?_)
  refine zl_aload_n hx hb zd_X9_fitting_19 rfl (lv_at hl 1 rfl) ?_
  have k28h : ∀ (_ : Unit) (H : Heap) (locs : List Loc) (ls : Array Slot), (
      (zf_X9_refuse h q (-1)).bind fun r10 =>
      some (r10.1, r10.2)
      ) = some res → zc_W g h H locs → lv_has ls 7 [(0, va_rf ((some q)))] → W p l e zr_X9_fitting s m [va_rf ((some q)), .int (x1), .int (x2)].toArray below meth c H locs ((0 + 0) + 0) ((0 + 0) + 0) (zc_Q g below zr_X9_fitting (some (.int (res.2))) res.1 [va_rf ((some q)), .int (x1), .int (x2)] s) (F0 m 28 ls []) := by
    intro _ H locs ls hf hw hl
    refine zl_aload_n hx hb zd_X9_fitting_28 rfl (lv_at hl 0 rfl) ?_
    refine lv_iconst (v := (-1)) hx hb zd_X9_fitting_29 (by decide) ?_
    replace hf := zo_b hf; obtain ⟨r10, er10, hf⟩ := hf
    refine zw_callV (n := 1) (ci := 9) (q := zc_cl[9]) (As := [.int ((-1))]) (rest := []) S hK hw (zt_X9_refuse l g h q (-1) _ er10) zm_349 zm_351 zm_1 zq_X9_refuse zm_68 (by decide +kernel) ⟨Nat.le_of_ble_eq_true rfl, Nat.le_of_ble_eq_true rfl⟩ rfl rfl rfl (zi_X9_refuse er10) hl.1 rfl (by simp [zv_cat, zv_ci, zv_cj]) zd_X9_fitting_30 ⟨(by show ((0 + 0) + 0) + (0 : Nat) ≤ (136 : Nat); omega), (by show ((0 + 0) + 0) + (0 : Nat) ≤ (5440 : Nat); omega)⟩ (fun H locs hw => ?_)
    replace hw : zc_W g r10.1 H locs := hw
    refine W.widen (k := (((0 + 0) + 0) + 0)) (n := (((0 + 0) + 0) + 0)) (Nat.le_refl _) (Nat.le_refl _) ?_
    have hres := Option.some.inj hf; subst hres
    exact zw_iret (v := r10.2) (ty := .int) hx hb hr hlk rfl hw zd_X9_fitting_33 (by show _ ≤ (136 : Nat); omega) (by show _ ≤ (5440 : Nat); omega)
  refine zl_ifnull (tgt := 28) hx hb zd_X9_fitting_20 (by decide) (fun c9 => ?_) (fun c9 => ?_)
  · replace hf := zo_t c9 hf
    exact k28h () _ _ _ hf hw (lv_sub hl [2] rfl)
  · replace hf := zo_f c9 hf
    refine zl_aload hx hb zd_X9_fitting_23 (lv_at hl 0 rfl) ?_
    refine zl_ifnonnull (tgt := 34) hx hb zd_X9_fitting_25 (by decide) (fun c11 => ?_) (fun c11 => ?_)
    · replace hf := zo_f c11 hf
      refine zl_aload hx hb zd_X9_fitting_34 (lv_at hl 0 rfl) ?_
      refine zl_aload_n hx hb zd_X9_fitting_36 rfl (lv_at hl 1 rfl) ?_
      replace hf := zo_b hf; obtain ⟨a12, na12, hf⟩ := hf
      refine W.eq (g2 := F0 m 37 ls [va_rf ((some a12)), va_rf (r8)]) (by rw [na12] <;> rfl) ?_
      replace hf := zo_b hf; obtain ⟨v13, ev13, hf⟩ := hf
      obtain ⟨u14, u14e, u14v⟩ := zo_b ev13
      obtain rfl := zv_r_e u14v
      refine zw_get S hK hw zk_3 (k := 3) (by decide) rfl zm_768 (Or.inl rfl) u14e zd_X9_fitting_37 ?_
      replace hf := zo_b hf; obtain ⟨a15, na15, hf⟩ := hf
      refine W.eq (g2 := F0 m 40 ls [va_rf (v13), va_rf ((some a15))]) (by rw [na15] <;> rfl) ?_
      replace hf := zo_b hf; obtain ⟨r16, er16, hf⟩ := hf
      refine zw_callV (n := 1) (ci := 4) (q := zc_cl[4]) (As := [va_rf (v13)]) (rest := []) S hK hw (zt_X4_isBehind l g h a15 v13 _ er16) zm_907 zm_908 zm_909 zq_X4_isBehind zm_84 (by decide +kernel) ⟨Nat.le_of_ble_eq_true rfl, Nat.le_of_ble_eq_true rfl⟩ rfl rfl rfl (zi_X4_isBehind er16) hl.1 rfl (by simp [zv_cat, zv_ci, zv_cj]) zd_X9_fitting_40 ⟨(by show ((0 + 0) + 0) + (0 : Nat) ≤ (136 : Nat); omega), (by show ((0 + 0) + 0) + (0 : Nat) ≤ (5440 : Nat); omega)⟩ (fun H locs hw => ?_)
      replace hw : zc_W g h H locs := hw
      refine W.widen (k := (((0 + 0) + 0) + 0)) (n := (((0 + 0) + 0) + 0)) (Nat.le_refl _) (Nat.le_refl _) ?_
      refine lv_if_ne (tgt := 53) hx hb zd_X9_fitting_43 (by decide) (fun c17 => ?_) (fun c17 => ?_)
      · replace hf := zo_f c17 hf
        refine lv_iconst (v := 0) hx hb zd_X9_fitting_53 (by decide) ?_
        refine lv_istore (i := 5) (lv' := [(5, .int (0)), (4, va_rf (r8)), (3, va_rf (r4)), (0, va_rf ((some q))), (1, .int (x1)), (2, .int (x2))]) hx hb zd_X9_fitting_54 hl (by decide) (by simp [List.filter, zv_cat, zv_ci, zv_cj]) (fun ls hl => ?_)
        refine lv_iconst (v := 0) hx hb zd_X9_fitting_56 (by decide) ?_
        refine lv_istore (i := 6) (lv' := [(6, .int (0)), (5, .int (0)), (4, va_rf (r8)), (3, va_rf (r4)), (0, va_rf ((some q))), (1, .int (x1)), (2, .int (x2))]) hx hb zd_X9_fitting_57 hl (by decide) rfl (fun ls hl => ?_)
        replace hf := zo_b hf; obtain ⟨w30, w30e, hf⟩ := hf
        refine L59 r4 r8 8 h 0 0 _ _ _ _ _ _ (by omega) (by omega) w30e hw (lv_sub hl [4, 3, 2, 1, 0] rfl) (fun H locs ls cl31 sl32 hcl31 hsl32 hw hl => ?_)
        refine lv_iload hx hb zd_X9_fitting_107 (lv_at hl 0 rfl) ?_
        have hres := Option.some.inj hf; subst hres
        exact zw_iret (v := w30.2) (ty := .int) hx hb hr hlk rfl hw zd_X9_fitting_109 (by show _ ≤ (136 : Nat); omega) (by show _ ≤ (5440 : Nat); omega)
      · replace hf := zo_t c17 hf
        refine zl_aload_n hx hb zd_X9_fitting_46 rfl (lv_at hl 2 rfl) ?_
        refine lv_bipush (v := (-6)) hx hb zd_X9_fitting_47 (by decide) ?_
        replace hf := zo_b hf; obtain ⟨r33, er33, hf⟩ := hf
        refine zw_callV (n := 1) (ci := 9) (q := zc_cl[9]) (As := [.int ((-6))]) (rest := []) S hK hw (zt_X9_refuse l g h q (-6) _ er33) zm_349 zm_351 zm_1 zq_X9_refuse zm_68 (by decide +kernel) ⟨Nat.le_of_ble_eq_true rfl, Nat.le_of_ble_eq_true rfl⟩ rfl rfl rfl (zi_X9_refuse er33) hl.1 rfl (by simp [zv_cat, zv_ci, zv_cj]) zd_X9_fitting_49 ⟨(by show (((0 + 0) + 0) + 0) + (0 : Nat) ≤ (136 : Nat); omega), (by show (((0 + 0) + 0) + 0) + (0 : Nat) ≤ (5440 : Nat); omega)⟩ (fun H locs hw => ?_)
        replace hw : zc_W g r33.1 H locs := hw
        refine W.widen (k := ((((0 + 0) + 0) + 0) + 0)) (n := ((((0 + 0) + 0) + 0) + 0)) (Nat.le_refl _) (Nat.le_refl _) ?_
        have hres := Option.some.inj hf; subst hres
        exact zw_iret (v := r33.2) (ty := .int) hx hb hr hlk rfl hw zd_X9_fitting_52 (by show _ ≤ (136 : Nat); omega) (by show _ ≤ (5440 : Nat); omega)
    · replace hf := zo_t c11 hf
      exact k28h () _ _ _ hf hw (lv_sub hl [2] rfl)
def zf_X9_inOrder (h : zc_H) (q : Nat) (x1 : Int32) (x2 : Int32) : Option (zc_H × Int32) :=
  if ¬ zf_is h q 9 = true then none else
  (zf_gr h q 9 1).bind fun v1 =>
  v1.bind fun a3 =>
  (zf_X6_revisionAt h a3 x1).bind fun r4 =>
  if r4 = none then
    (zf_X9_refuse h q (-11)).bind fun r14 =>
    some (r14.1, r14.2)
  else
  (zf_gr h q 9 9).bind fun v6 =>
  v6.bind fun a8 =>
  (zf_X7_take h a8 r4).bind fun r9 =>
  (zf_gr r9 q 9 9).bind fun v10 =>
  v10.bind fun a12 =>
  (zf_X7_inOrderAt r9 a12 x2).bind fun r13 =>
  some (r9, r13)
abbrev zr_X9_inOrder : Room := { frames := 11, cells := 289, slots := 11560, locals := 300 }
theorem zi_X9_inOrder {h : zc_H} {q : Nat} {x1 : Int32} {x2 : Int32} {res : zc_H × Int32} (hf : zf_X9_inOrder h q x1 x2 = some res) : zf_is h q 9 = true := Decidable.not_not.mp (zo_n hf).1
set_option maxHeartbeats 4000000 in
set_option maxRecDepth 20000 in
theorem zt_X9_inOrder (l : Launch) (g : zc_G) (h : zc_H) (q : Nat) (x1 : Int32) (x2 : Int32) (res : zc_H × Int32) (hf : zf_X9_inOrder h q x1 x2 = some res) : zc_M l g yX9_inOrder cX9_inOrder 4 (some .int) zr_X9_inOrder h [va_rf ((some q)), .int (x1), .int (x2)] res.1 (some (.int (res.2))) := by
  refine zc_M.of (by decide) (by simp [lg_sl, zv_cat, zv_ci, zv_cj]) ?_
  intro p e s m below meth c ls S hK hw hr hlk hnm hl
  replace S : CallFix p m c cX9_inOrder 4 s [va_rf ((some q)), .int (x1), .int (x2)].toArray (zc_ws yX9_inOrder cX9_inOrder 4 (some .int)) RX9 := S
  have hx := S.1
  have hb := S.2.1
  replace hl : lv_has ls 4 [(0, va_rf ((some q))), (1, .int (x1)), (2, .int (x2))] := by simpa [lv_args, zv_cat, zv_ci, zv_cj] using hl
  generalize s.heap = H at hw ⊢
  obtain ⟨locs, hlocs⟩ : ∃ L : List Loc, L = [] := ⟨_, rfl⟩
  rw [← hlocs] at hw ⊢
  unfold zf_X9_inOrder at hf
  obtain ⟨-, hf⟩ := zo_n hf
  refine zl_aload_n hx hb zd_X9_inOrder_0 rfl (lv_at hl 0 rfl) ?_
  replace hf := zo_b hf; obtain ⟨v1, ev1, hf⟩ := hf
  obtain ⟨u2, u2e, u2v⟩ := zo_b ev1
  obtain rfl := zv_r_e u2v
  refine zw_get S hK hw zk_9 (k := 1) (by decide) rfl zm_308 (Or.inl rfl) u2e zd_X9_inOrder_1 ?_
  refine lv_iload_n hx hb zd_X9_inOrder_4 rfl (lv_at hl 1 rfl) ?_
  replace hf := zo_b hf; obtain ⟨a3, na3, hf⟩ := hf
  refine W.eq (g2 := F0 m 5 ls [.int (x1), va_rf ((some a3))]) (by rw [na3] <;> rfl) ?_
  replace hf := zo_b hf; obtain ⟨r4, er4, hf⟩ := hf
  refine zw_callV (n := 1) (ci := 6) (q := zc_cl[6]) (As := [.int (x1)]) (rest := []) S hK hw (zt_X6_revisionAt l g h a3 x1 _ er4) zm_482 zm_483 zm_484 zq_X6_revisionAt zm_69 (by decide +kernel) ⟨Nat.le_of_ble_eq_true rfl, Nat.le_of_ble_eq_true rfl⟩ rfl rfl rfl (zi_X6_revisionAt er4) hl.1 rfl (by simp [zv_cat, zv_ci, zv_cj]) zd_X9_inOrder_5 ⟨(by show 0 + (0 : Nat) ≤ (289 : Nat); omega), (by show 0 + (0 : Nat) ≤ (11560 : Nat); omega)⟩ (fun H locs hw => ?_)
  replace hw : zc_W g h H locs := hw
  refine W.widen (k := (0 + 0)) (n := (0 + 0)) (Nat.le_refl _) (Nat.le_refl _) ?_
  refine zl_astore_n (i := 3) (lv' := [(3, va_rf (r4)), (0, va_rf ((some q))), (1, .int (x1)), (2, .int (x2))]) hx hb zd_X9_inOrder_8 rfl hl (by decide) rfl (fun ls hl => ?_)
  refine zl_aload_n hx hb zd_X9_inOrder_9 rfl (lv_at hl 0 rfl) ?_
  refine zl_ifnonnull (tgt := 20) hx hb zd_X9_inOrder_10 (by decide) (fun c5 => ?_) (fun c5 => ?_)
  · replace hf := zo_f c5 hf
    refine zl_aload_n hx hb zd_X9_inOrder_20 rfl (lv_at hl 1 rfl) ?_
    replace hf := zo_b hf; obtain ⟨v6, ev6, hf⟩ := hf
    obtain ⟨u7, u7e, u7v⟩ := zo_b ev6
    obtain rfl := zv_r_e u7v
    refine zw_get S hK hw zk_9 (k := 9) (by decide) rfl zm_316 (Or.inl rfl) u7e zd_X9_inOrder_21 ?_
    refine zl_aload_n hx hb zd_X9_inOrder_24 rfl (lv_at hl 0 rfl) ?_
    replace hf := zo_b hf; obtain ⟨a8, na8, hf⟩ := hf
    refine W.eq (g2 := F0 m 25 ls [va_rf (r4), va_rf ((some a8))]) (by rw [na8] <;> rfl) ?_
    replace hf := zo_b hf; obtain ⟨r9, er9, hf⟩ := hf
    refine zw_callV (n := 1) (ci := 7) (q := zc_cl[7]) (As := [va_rf (r4)]) (rest := []) S hK hw (zt_X7_take l g h a8 r4 _ er9) zm_915 zm_916 zm_917 zq_X7_take zm_76 (by decide +kernel) ⟨Nat.le_of_ble_eq_true rfl, Nat.le_of_ble_eq_true rfl⟩ rfl rfl rfl (zi_X7_take er9) hl.1 rfl (by simp [zv_cat, zv_ci, zv_cj]) zd_X9_inOrder_25 ⟨(by show (0 + 0) + (289 : Nat) ≤ (289 : Nat); omega), (by show (0 + 0) + (11560 : Nat) ≤ (11560 : Nat); omega)⟩ (fun H locs hw => ?_)
    replace hw : zc_W g r9 H locs := hw
    refine W.widen (k := ((0 + 0) + 289)) (n := ((0 + 0) + 11560)) (Nat.le_refl _) (Nat.le_refl _) ?_
    refine zl_aload_n hx hb zd_X9_inOrder_28 rfl (lv_at hl 1 rfl) ?_
    replace hf := zo_b hf; obtain ⟨v10, ev10, hf⟩ := hf
    obtain ⟨u11, u11e, u11v⟩ := zo_b ev10
    obtain rfl := zv_r_e u11v
    refine zw_get S hK hw zk_9 (k := 9) (by decide) rfl zm_316 (Or.inl rfl) u11e zd_X9_inOrder_29 ?_
    refine lv_iload_n hx hb zd_X9_inOrder_32 rfl (lv_at hl 3 rfl) ?_
    replace hf := zo_b hf; obtain ⟨a12, na12, hf⟩ := hf
    refine W.eq (g2 := F0 m 33 ls [.int (x2), va_rf ((some a12))]) (by rw [na12] <;> rfl) ?_
    replace hf := zo_b hf; obtain ⟨r13, er13, hf⟩ := hf
    refine zw_callV (n := 1) (ci := 7) (q := zc_cl[7]) (As := [.int (x2)]) (rest := []) S hK hw (zt_X7_inOrderAt l g r9 a12 x2 _ er13) zm_924 zm_925 zm_926 zq_X7_inOrderAt zm_76 (by decide +kernel) ⟨Nat.le_of_ble_eq_true rfl, Nat.le_of_ble_eq_true rfl⟩ rfl rfl rfl (zi_X7_inOrderAt er13) hl.1 rfl (by simp [zv_cat, zv_ci, zv_cj]) zd_X9_inOrder_33 ⟨(by show ((0 + 0) + 289) + (0 : Nat) ≤ (289 : Nat); omega), (by show ((0 + 0) + 11560) + (0 : Nat) ≤ (11560 : Nat); omega)⟩ (fun H locs hw => ?_)
    replace hw : zc_W g r9 H locs := hw
    refine W.widen (k := (((0 + 0) + 289) + 0)) (n := (((0 + 0) + 11560) + 0)) (Nat.le_refl _) (Nat.le_refl _) ?_
    have hres := Option.some.inj hf; subst hres
    exact zw_iret (v := r13) (ty := .int) hx hb hr hlk rfl hw zd_X9_inOrder_36 (by show _ ≤ (289 : Nat); omega) (by show _ ≤ (11560 : Nat); omega)
  · replace hf := zo_t c5 hf
    refine zl_aload_n hx hb zd_X9_inOrder_13 rfl (lv_at hl 1 rfl) ?_
    refine lv_bipush (v := (-11)) hx hb zd_X9_inOrder_14 (by decide) ?_
    replace hf := zo_b hf; obtain ⟨r14, er14, hf⟩ := hf
    refine zw_callV (n := 1) (ci := 9) (q := zc_cl[9]) (As := [.int ((-11))]) (rest := []) S hK hw (zt_X9_refuse l g h q (-11) _ er14) zm_349 zm_351 zm_1 zq_X9_refuse zm_68 (by decide +kernel) ⟨Nat.le_of_ble_eq_true rfl, Nat.le_of_ble_eq_true rfl⟩ rfl rfl rfl (zi_X9_refuse er14) hl.1 rfl (by simp [zv_cat, zv_ci, zv_cj]) zd_X9_inOrder_16 ⟨(by show (0 + 0) + (0 : Nat) ≤ (289 : Nat); omega), (by show (0 + 0) + (0 : Nat) ≤ (11560 : Nat); omega)⟩ (fun H locs hw => ?_)
    replace hw : zc_W g r14.1 H locs := hw
    refine W.widen (k := ((0 + 0) + 0)) (n := ((0 + 0) + 0)) (Nat.le_refl _) (Nat.le_refl _) ?_
    have hres := Option.some.inj hf; subst hres
    exact zw_iret (v := r14.2) (ty := .int) hx hb hr hlk rfl hw zd_X9_inOrder_19 (by show _ ≤ (289 : Nat); omega) (by show _ ≤ (11560 : Nat); omega)
def zf_X9_who (h : zc_H) (q : Nat) (x1 : Int32) (x2 : Int32) : Option (zc_H × Int32) :=
  if ¬ zf_is h q 9 = true then none else
  (zf_gr h q 9 1).bind fun v1 =>
  v1.bind fun a3 =>
  (zf_X6_revisionAt h a3 x1).bind fun r4 =>
  if r4 = none then
    (zf_X9_refuse h q (-1)).bind fun r31 =>
    some (r31.1, r31.2)
  else
  let k28 := fun (_ : Unit) =>
    (zf_X9_refuse h q (-5)).bind fun r7 =>
    some (r7.1, r7.2)
  if x2 < 0 then
    k28 ()
  else
  if x2 ≤ 2 then
    (zf_gr h q 9 9).bind fun v9 =>
    v9.bind fun a11 =>
    (zf_X7_take h a11 r4).bind fun r12 =>
    if x2 = 0 then
      (zf_gr r12 q 9 9).bind fun v14 =>
      v14.bind fun a16 =>
      (zf_gi r12 a16 7 3).bind fun v17 =>
      some (r12, v17)
    else
    if x2 = 1 then
      (zf_gr r12 q 9 9).bind fun v20 =>
      v20.bind fun a22 =>
      (zf_gi r12 a22 7 4).bind fun v23 =>
      some (r12, v23)
    else
    (zf_gr r12 q 9 9).bind fun v25 =>
    r4.bind fun a27 =>
    (zf_X4_count r12 a27).bind fun r28 =>
    v25.bind fun a29 =>
    (zf_X7_hottestOf r12 a29 r28).bind fun r30 =>
    some (r12, r30)
  else
  k28 ()
abbrev zr_X9_who : Room := { frames := 11, cells := 289, slots := 11560, locals := 300 }
theorem zi_X9_who {h : zc_H} {q : Nat} {x1 : Int32} {x2 : Int32} {res : zc_H × Int32} (hf : zf_X9_who h q x1 x2 = some res) : zf_is h q 9 = true := Decidable.not_not.mp (zo_n hf).1
set_option maxHeartbeats 4000000 in
set_option maxRecDepth 20000 in
theorem zt_X9_who (l : Launch) (g : zc_G) (h : zc_H) (q : Nat) (x1 : Int32) (x2 : Int32) (res : zc_H × Int32) (hf : zf_X9_who h q x1 x2 = some res) : zc_M l g yX9_who cX9_who 4 (some .int) zr_X9_who h [va_rf ((some q)), .int (x1), .int (x2)] res.1 (some (.int (res.2))) := by
  refine zc_M.of (by decide) (by simp [lg_sl, zv_cat, zv_ci, zv_cj]) ?_
  intro p e s m below meth c ls S hK hw hr hlk hnm hl
  replace S : CallFix p m c cX9_who 4 s [va_rf ((some q)), .int (x1), .int (x2)].toArray (zc_ws yX9_who cX9_who 4 (some .int)) RX9 := S
  have hx := S.1
  have hb := S.2.1
  replace hl : lv_has ls 4 [(0, va_rf ((some q))), (1, .int (x1)), (2, .int (x2))] := by simpa [lv_args, zv_cat, zv_ci, zv_cj] using hl
  generalize s.heap = H at hw ⊢
  obtain ⟨locs, hlocs⟩ : ∃ L : List Loc, L = [] := ⟨_, rfl⟩
  rw [← hlocs] at hw ⊢
  unfold zf_X9_who at hf
  obtain ⟨-, hf⟩ := zo_n hf
  refine zl_aload_n hx hb zd_X9_who_0 rfl (lv_at hl 0 rfl) ?_
  replace hf := zo_b hf; obtain ⟨v1, ev1, hf⟩ := hf
  obtain ⟨u2, u2e, u2v⟩ := zo_b ev1
  obtain rfl := zv_r_e u2v
  refine zw_get S hK hw zk_9 (k := 1) (by decide) rfl zm_308 (Or.inl rfl) u2e zd_X9_who_1 ?_
  refine lv_iload_n hx hb zd_X9_who_4 rfl (lv_at hl 1 rfl) ?_
  replace hf := zo_b hf; obtain ⟨a3, na3, hf⟩ := hf
  refine W.eq (g2 := F0 m 5 ls [.int (x1), va_rf ((some a3))]) (by rw [na3] <;> rfl) ?_
  replace hf := zo_b hf; obtain ⟨r4, er4, hf⟩ := hf
  refine zw_callV (n := 1) (ci := 6) (q := zc_cl[6]) (As := [.int (x1)]) (rest := []) S hK hw (zt_X6_revisionAt l g h a3 x1 _ er4) zm_482 zm_483 zm_484 zq_X6_revisionAt zm_69 (by decide +kernel) ⟨Nat.le_of_ble_eq_true rfl, Nat.le_of_ble_eq_true rfl⟩ rfl rfl rfl (zi_X6_revisionAt er4) hl.1 rfl (by simp [zv_cat, zv_ci, zv_cj]) zd_X9_who_5 ⟨(by show 0 + (0 : Nat) ≤ (289 : Nat); omega), (by show 0 + (0 : Nat) ≤ (11560 : Nat); omega)⟩ (fun H locs hw => ?_)
  replace hw : zc_W g h H locs := hw
  refine W.widen (k := (0 + 0)) (n := (0 + 0)) (Nat.le_refl _) (Nat.le_refl _) ?_
  refine zl_astore_n (i := 3) (lv' := [(3, va_rf (r4)), (0, va_rf ((some q))), (1, .int (x1)), (2, .int (x2))]) hx hb zd_X9_who_8 rfl hl (by decide) rfl (fun ls hl => ?_)
  refine zl_aload_n hx hb zd_X9_who_9 rfl (lv_at hl 0 rfl) ?_
  refine zl_ifnonnull (tgt := 19) hx hb zd_X9_who_10 (by decide) (fun c5 => ?_) (fun c5 => ?_)
  · replace hf := zo_f c5 hf
    refine lv_iload_n hx hb zd_X9_who_19 rfl (lv_at hl 3 rfl) ?_
    have k28h : ∀ (_ : Unit) (H : Heap) (locs : List Loc) (ls : Array Slot), (
        (zf_X9_refuse h q (-5)).bind fun r7 =>
        some (r7.1, r7.2)
        ) = some res → zc_W g h H locs → lv_has ls 4 [(0, va_rf ((some q)))] → W p l e zr_X9_who s m [va_rf ((some q)), .int (x1), .int (x2)].toArray below meth c H locs (0 + 0) (0 + 0) (zc_Q g below zr_X9_who (some (.int (res.2))) res.1 [va_rf ((some q)), .int (x1), .int (x2)] s) (F0 m 28 ls []) := by
      intro _ H locs ls hf hw hl
      refine zl_aload_n hx hb zd_X9_who_28 rfl (lv_at hl 0 rfl) ?_
      refine lv_bipush (v := (-5)) hx hb zd_X9_who_29 (by decide) ?_
      replace hf := zo_b hf; obtain ⟨r7, er7, hf⟩ := hf
      refine zw_callV (n := 1) (ci := 9) (q := zc_cl[9]) (As := [.int ((-5))]) (rest := []) S hK hw (zt_X9_refuse l g h q (-5) _ er7) zm_349 zm_351 zm_1 zq_X9_refuse zm_68 (by decide +kernel) ⟨Nat.le_of_ble_eq_true rfl, Nat.le_of_ble_eq_true rfl⟩ rfl rfl rfl (zi_X9_refuse er7) hl.1 rfl (by simp [zv_cat, zv_ci, zv_cj]) zd_X9_who_31 ⟨(by show (0 + 0) + (0 : Nat) ≤ (289 : Nat); omega), (by show (0 + 0) + (0 : Nat) ≤ (11560 : Nat); omega)⟩ (fun H locs hw => ?_)
      replace hw : zc_W g r7.1 H locs := hw
      refine W.widen (k := ((0 + 0) + 0)) (n := ((0 + 0) + 0)) (Nat.le_refl _) (Nat.le_refl _) ?_
      have hres := Option.some.inj hf; subst hres
      exact zw_iret (v := r7.2) (ty := .int) hx hb hr hlk rfl hw zd_X9_who_34 (by show _ ≤ (289 : Nat); omega) (by show _ ≤ (11560 : Nat); omega)
    refine lv_if_lt (tgt := 28) hx hb zd_X9_who_20 (by decide) (fun c6 => ?_) (fun c6 => ?_)
    · replace hf := zo_t c6 hf
      exact k28h () _ _ _ hf hw (lv_sub hl [1] rfl)
    · replace hf := zo_f c6 hf
      refine lv_iload_n hx hb zd_X9_who_23 rfl (lv_at hl 3 rfl) ?_
      refine lv_iconst (v := 2) hx hb zd_X9_who_24 (by decide) ?_
      refine lv_icmp_le (tgt := 35) hx hb zd_X9_who_25 (by decide) (fun c8 => ?_) (fun c8 => ?_)
      · replace hf := zo_t c8 hf
        refine zl_aload_n hx hb zd_X9_who_35 rfl (lv_at hl 1 rfl) ?_
        replace hf := zo_b hf; obtain ⟨v9, ev9, hf⟩ := hf
        obtain ⟨u10, u10e, u10v⟩ := zo_b ev9
        obtain rfl := zv_r_e u10v
        refine zw_get S hK hw zk_9 (k := 9) (by decide) rfl zm_316 (Or.inl rfl) u10e zd_X9_who_36 ?_
        refine zl_aload_n hx hb zd_X9_who_39 rfl (lv_at hl 0 rfl) ?_
        replace hf := zo_b hf; obtain ⟨a11, na11, hf⟩ := hf
        refine W.eq (g2 := F0 m 40 ls [va_rf (r4), va_rf ((some a11))]) (by rw [na11] <;> rfl) ?_
        replace hf := zo_b hf; obtain ⟨r12, er12, hf⟩ := hf
        refine zw_callV (n := 1) (ci := 7) (q := zc_cl[7]) (As := [va_rf (r4)]) (rest := []) S hK hw (zt_X7_take l g h a11 r4 _ er12) zm_915 zm_916 zm_917 zq_X7_take zm_76 (by decide +kernel) ⟨Nat.le_of_ble_eq_true rfl, Nat.le_of_ble_eq_true rfl⟩ rfl rfl rfl (zi_X7_take er12) hl.1 rfl (by simp [zv_cat, zv_ci, zv_cj]) zd_X9_who_40 ⟨(by show (0 + 0) + (289 : Nat) ≤ (289 : Nat); omega), (by show (0 + 0) + (11560 : Nat) ≤ (11560 : Nat); omega)⟩ (fun H locs hw => ?_)
        replace hw : zc_W g r12 H locs := hw
        refine W.widen (k := ((0 + 0) + 289)) (n := ((0 + 0) + 11560)) (Nat.le_refl _) (Nat.le_refl _) ?_
        refine lv_iload_n hx hb zd_X9_who_43 rfl (lv_at hl 3 rfl) ?_
        by_cases c13 : x2 = 0
        · replace hf := zo_t c13 hf
          refine W.eq (g2 := F0 m 44 ls (.int 0 :: [])) (by rw [c13] <;> rfl) ?_
          refine lv_lookup (off := 28) (tgt := 72) hx hb zd_X9_who_44 (by decide) (by decide) (by decide) ?_
          refine zl_aload_n hx hb zd_X9_who_72 rfl (lv_at hl 1 rfl) ?_
          replace hf := zo_b hf; obtain ⟨v14, ev14, hf⟩ := hf
          obtain ⟨u15, u15e, u15v⟩ := zo_b ev14
          obtain rfl := zv_r_e u15v
          refine zw_get S hK hw zk_9 (k := 9) (by decide) rfl zm_316 (Or.inl rfl) u15e zd_X9_who_73 ?_
          replace hf := zo_b hf; obtain ⟨a16, na16, hf⟩ := hf
          refine W.eq (g2 := F0 m 76 ls [va_rf ((some a16))]) (by rw [na16] <;> rfl) ?_
          replace hf := zo_b hf; obtain ⟨v17, ev17, hf⟩ := hf
          obtain ⟨u18, u18e, u18v⟩ := zo_b ev17
          obtain rfl := zv_i_e u18v
          refine zw_get S hK hw zk_7 (k := 3) (by decide) rfl zm_252 (Or.inl rfl) u18e zd_X9_who_76 ?_
          have hres := Option.some.inj hf; subst hres
          exact zw_iret (v := v17) (ty := .int) hx hb hr hlk rfl hw zd_X9_who_79 (by show _ ≤ (289 : Nat); omega) (by show _ ≤ (11560 : Nat); omega)
        replace hf := zo_f c13 hf
        by_cases c19 : x2 = 1
        · replace hf := zo_t c19 hf
          refine W.eq (g2 := F0 m 44 ls (.int 1 :: [])) (by rw [c19] <;> rfl) ?_
          refine lv_lookup (off := 36) (tgt := 80) hx hb zd_X9_who_44 (by decide) (by decide) (by decide) ?_
          refine zl_aload_n hx hb zd_X9_who_80 rfl (lv_at hl 1 rfl) ?_
          replace hf := zo_b hf; obtain ⟨v20, ev20, hf⟩ := hf
          obtain ⟨u21, u21e, u21v⟩ := zo_b ev20
          obtain rfl := zv_r_e u21v
          refine zw_get S hK hw zk_9 (k := 9) (by decide) rfl zm_316 (Or.inl rfl) u21e zd_X9_who_81 ?_
          replace hf := zo_b hf; obtain ⟨a22, na22, hf⟩ := hf
          refine W.eq (g2 := F0 m 84 ls [va_rf ((some a22))]) (by rw [na22] <;> rfl) ?_
          replace hf := zo_b hf; obtain ⟨v23, ev23, hf⟩ := hf
          obtain ⟨u24, u24e, u24v⟩ := zo_b ev23
          obtain rfl := zv_i_e u24v
          refine zw_get S hK hw zk_7 (k := 4) (by decide) rfl zm_254 (Or.inl rfl) u24e zd_X9_who_84 ?_
          have hres := Option.some.inj hf; subst hres
          exact zw_iret (v := v23) (ty := .int) hx hb hr hlk rfl hw zd_X9_who_87 (by show _ ≤ (289 : Nat); omega) (by show _ ≤ (11560 : Nat); omega)
        replace hf := zo_f c19 hf
        have zc13 : (x2 : Int32).toInt ≠ 0 := fun h => c13 (Int32.toInt_inj.mp (h.trans (by decide)))
        have zc19 : (x2 : Int32).toInt ≠ 1 := fun h => c19 (Int32.toInt_inj.mp (h.trans (by decide)))
        refine lv_lookup (off := 44) (tgt := 88) hx hb zd_X9_who_44 (by decide) (by simp [Op.lookupswitch.offset, Ne.symm zc13, Ne.symm zc19]) (by decide) ?_
        refine zl_aload_n hx hb zd_X9_who_88 rfl (lv_at hl 1 rfl) ?_
        replace hf := zo_b hf; obtain ⟨v25, ev25, hf⟩ := hf
        obtain ⟨u26, u26e, u26v⟩ := zo_b ev25
        obtain rfl := zv_r_e u26v
        refine zw_get S hK hw zk_9 (k := 9) (by decide) rfl zm_316 (Or.inl rfl) u26e zd_X9_who_89 ?_
        refine zl_aload_n hx hb zd_X9_who_92 rfl (lv_at hl 0 rfl) ?_
        replace hf := zo_b hf; obtain ⟨a27, na27, hf⟩ := hf
        refine W.eq (g2 := F0 m 93 ls [va_rf ((some a27)), va_rf (v25)]) (by rw [na27] <;> rfl) ?_
        replace hf := zo_b hf; obtain ⟨r28, er28, hf⟩ := hf
        refine zw_callV (n := 0) (ci := 4) (q := zc_cl[4]) (As := []) (rest := [va_rf (v25)]) S hK hw (zt_X4_count l g r12 a27 _ er28) zm_662 zm_618 zm_619 zq_X4_count zm_84 (by decide +kernel) ⟨Nat.le_of_ble_eq_true rfl, Nat.le_of_ble_eq_true rfl⟩ rfl rfl rfl (zi_X4_count er28) hl.1 rfl (by simp [zv_cat, zv_ci, zv_cj]) zd_X9_who_93 ⟨(by show ((0 + 0) + 289) + (0 : Nat) ≤ (289 : Nat); omega), (by show ((0 + 0) + 11560) + (0 : Nat) ≤ (11560 : Nat); omega)⟩ (fun H locs hw => ?_)
        replace hw : zc_W g r12 H locs := hw
        refine W.widen (k := (((0 + 0) + 289) + 0)) (n := (((0 + 0) + 11560) + 0)) (Nat.le_refl _) (Nat.le_refl _) ?_
        replace hf := zo_b hf; obtain ⟨a29, na29, hf⟩ := hf
        refine W.eq (g2 := F0 m 96 ls [.int (r28), va_rf ((some a29))]) (by rw [na29] <;> rfl) ?_
        replace hf := zo_b hf; obtain ⟨r30, er30, hf⟩ := hf
        refine zw_callV (n := 1) (ci := 7) (q := zc_cl[7]) (As := [.int (r28)]) (rest := []) S hK hw (zt_X7_hottestOf l g r12 a29 r28 _ er30) zm_937 zm_938 zm_939 zq_X7_hottestOf zm_76 (by decide +kernel) ⟨Nat.le_of_ble_eq_true rfl, Nat.le_of_ble_eq_true rfl⟩ rfl rfl rfl (zi_X7_hottestOf er30) hl.1 rfl (by simp [zv_cat, zv_ci, zv_cj]) zd_X9_who_96 ⟨(by show (((0 + 0) + 289) + 0) + (0 : Nat) ≤ (289 : Nat); omega), (by show (((0 + 0) + 11560) + 0) + (0 : Nat) ≤ (11560 : Nat); omega)⟩ (fun H locs hw => ?_)
        replace hw : zc_W g r12 H locs := hw
        refine W.widen (k := ((((0 + 0) + 289) + 0) + 0)) (n := ((((0 + 0) + 11560) + 0) + 0)) (Nat.le_refl _) (Nat.le_refl _) ?_
        have hres := Option.some.inj hf; subst hres
        exact zw_iret (v := r30) (ty := .int) hx hb hr hlk rfl hw zd_X9_who_99 (by show _ ≤ (289 : Nat); omega) (by show _ ≤ (11560 : Nat); omega)
      · replace hf := zo_f c8 hf
        exact k28h () _ _ _ hf hw (lv_sub hl [1] rfl)
  · replace hf := zo_t c5 hf
    refine zl_aload_n hx hb zd_X9_who_13 rfl (lv_at hl 1 rfl) ?_
    refine lv_iconst (v := (-1)) hx hb zd_X9_who_14 (by decide) ?_
    replace hf := zo_b hf; obtain ⟨r31, er31, hf⟩ := hf
    refine zw_callV (n := 1) (ci := 9) (q := zc_cl[9]) (As := [.int ((-1))]) (rest := []) S hK hw (zt_X9_refuse l g h q (-1) _ er31) zm_349 zm_351 zm_1 zq_X9_refuse zm_68 (by decide +kernel) ⟨Nat.le_of_ble_eq_true rfl, Nat.le_of_ble_eq_true rfl⟩ rfl rfl rfl (zi_X9_refuse er31) hl.1 rfl (by simp [zv_cat, zv_ci, zv_cj]) zd_X9_who_15 ⟨(by show (0 + 0) + (0 : Nat) ≤ (289 : Nat); omega), (by show (0 + 0) + (0 : Nat) ≤ (11560 : Nat); omega)⟩ (fun H locs hw => ?_)
    replace hw : zc_W g r31.1 H locs := hw
    refine W.widen (k := ((0 + 0) + 0)) (n := ((0 + 0) + 0)) (Nat.le_refl _) (Nat.le_refl _) ?_
    have hres := Option.some.inj hf; subst hres
    exact zw_iret (v := r31.2) (ty := .int) hx hb hr hlk rfl hw zd_X9_who_18 (by show _ ≤ (289 : Nat); omega) (by show _ ≤ (11560 : Nat); omega)
def zf_X9_covered (h : zc_H) (q : Nat) (x1 : Int32) : Option (zc_H × Int32) :=
  if ¬ zf_is h q 9 = true then none else
  (zf_gr h q 9 1).bind fun v1 =>
  v1.bind fun a3 =>
  (zf_X6_revisionAt h a3 x1).bind fun r4 =>
  if r4 = none then
    (zf_X9_refuse h q (-1)).bind fun r16 =>
    some (r16.1, r16.2)
  else
  (zf_gr h q 9 9).bind fun v6 =>
  v6.bind fun a8 =>
  (zf_X7_take h a8 r4).bind fun r9 =>
  (zf_gr r9 q 9 9).bind fun v10 =>
  r4.bind fun a12 =>
  (zf_X4_count r9 a12).bind fun r13 =>
  v10.bind fun a14 =>
  (zf_X7_linesIn r9 a14 r13).bind fun r15 =>
  some (r9, r15)
abbrev zr_X9_covered : Room := { frames := 11, cells := 289, slots := 11560, locals := 300 }
theorem zi_X9_covered {h : zc_H} {q : Nat} {x1 : Int32} {res : zc_H × Int32} (hf : zf_X9_covered h q x1 = some res) : zf_is h q 9 = true := Decidable.not_not.mp (zo_n hf).1
set_option maxHeartbeats 4000000 in
set_option maxRecDepth 20000 in
theorem zt_X9_covered (l : Launch) (g : zc_G) (h : zc_H) (q : Nat) (x1 : Int32) (res : zc_H × Int32) (hf : zf_X9_covered h q x1 = some res) : zc_M l g yX9_covered cX9_covered 3 (some .int) zr_X9_covered h [va_rf ((some q)), .int (x1)] res.1 (some (.int (res.2))) := by
  refine zc_M.of (by decide) (by simp [lg_sl, zv_cat, zv_ci, zv_cj]) ?_
  intro p e s m below meth c ls S hK hw hr hlk hnm hl
  replace S : CallFix p m c cX9_covered 3 s [va_rf ((some q)), .int (x1)].toArray (zc_ws yX9_covered cX9_covered 3 (some .int)) RX9 := S
  have hx := S.1
  have hb := S.2.1
  replace hl : lv_has ls 3 [(0, va_rf ((some q))), (1, .int (x1))] := by simpa [lv_args, zv_cat, zv_ci, zv_cj] using hl
  generalize s.heap = H at hw ⊢
  obtain ⟨locs, hlocs⟩ : ∃ L : List Loc, L = [] := ⟨_, rfl⟩
  rw [← hlocs] at hw ⊢
  unfold zf_X9_covered at hf
  obtain ⟨-, hf⟩ := zo_n hf
  refine zl_aload_n hx hb zd_X9_covered_0 rfl (lv_at hl 0 rfl) ?_
  replace hf := zo_b hf; obtain ⟨v1, ev1, hf⟩ := hf
  obtain ⟨u2, u2e, u2v⟩ := zo_b ev1
  obtain rfl := zv_r_e u2v
  refine zw_get S hK hw zk_9 (k := 1) (by decide) rfl zm_308 (Or.inl rfl) u2e zd_X9_covered_1 ?_
  refine lv_iload_n hx hb zd_X9_covered_4 rfl (lv_at hl 1 rfl) ?_
  replace hf := zo_b hf; obtain ⟨a3, na3, hf⟩ := hf
  refine W.eq (g2 := F0 m 5 ls [.int (x1), va_rf ((some a3))]) (by rw [na3] <;> rfl) ?_
  replace hf := zo_b hf; obtain ⟨r4, er4, hf⟩ := hf
  refine zw_callV (n := 1) (ci := 6) (q := zc_cl[6]) (As := [.int (x1)]) (rest := []) S hK hw (zt_X6_revisionAt l g h a3 x1 _ er4) zm_482 zm_483 zm_484 zq_X6_revisionAt zm_69 (by decide +kernel) ⟨Nat.le_of_ble_eq_true rfl, Nat.le_of_ble_eq_true rfl⟩ rfl rfl rfl (zi_X6_revisionAt er4) hl.1 rfl (by simp [zv_cat, zv_ci, zv_cj]) zd_X9_covered_5 ⟨(by show 0 + (0 : Nat) ≤ (289 : Nat); omega), (by show 0 + (0 : Nat) ≤ (11560 : Nat); omega)⟩ (fun H locs hw => ?_)
  replace hw : zc_W g h H locs := hw
  refine W.widen (k := (0 + 0)) (n := (0 + 0)) (Nat.le_refl _) (Nat.le_refl _) ?_
  refine zl_astore_n (i := 2) (lv' := [(2, va_rf (r4)), (0, va_rf ((some q))), (1, .int (x1))]) hx hb zd_X9_covered_8 rfl hl (by decide) rfl (fun ls hl => ?_)
  refine zl_aload_n hx hb zd_X9_covered_9 rfl (lv_at hl 0 rfl) ?_
  refine zl_ifnonnull (tgt := 19) hx hb zd_X9_covered_10 (by decide) (fun c5 => ?_) (fun c5 => ?_)
  · replace hf := zo_f c5 hf
    refine zl_aload_n hx hb zd_X9_covered_19 rfl (lv_at hl 1 rfl) ?_
    replace hf := zo_b hf; obtain ⟨v6, ev6, hf⟩ := hf
    obtain ⟨u7, u7e, u7v⟩ := zo_b ev6
    obtain rfl := zv_r_e u7v
    refine zw_get S hK hw zk_9 (k := 9) (by decide) rfl zm_316 (Or.inl rfl) u7e zd_X9_covered_20 ?_
    refine zl_aload_n hx hb zd_X9_covered_23 rfl (lv_at hl 0 rfl) ?_
    replace hf := zo_b hf; obtain ⟨a8, na8, hf⟩ := hf
    refine W.eq (g2 := F0 m 24 ls [va_rf (r4), va_rf ((some a8))]) (by rw [na8] <;> rfl) ?_
    replace hf := zo_b hf; obtain ⟨r9, er9, hf⟩ := hf
    refine zw_callV (n := 1) (ci := 7) (q := zc_cl[7]) (As := [va_rf (r4)]) (rest := []) S hK hw (zt_X7_take l g h a8 r4 _ er9) zm_915 zm_916 zm_917 zq_X7_take zm_76 (by decide +kernel) ⟨Nat.le_of_ble_eq_true rfl, Nat.le_of_ble_eq_true rfl⟩ rfl rfl rfl (zi_X7_take er9) hl.1 rfl (by simp [zv_cat, zv_ci, zv_cj]) zd_X9_covered_24 ⟨(by show (0 + 0) + (289 : Nat) ≤ (289 : Nat); omega), (by show (0 + 0) + (11560 : Nat) ≤ (11560 : Nat); omega)⟩ (fun H locs hw => ?_)
    replace hw : zc_W g r9 H locs := hw
    refine W.widen (k := ((0 + 0) + 289)) (n := ((0 + 0) + 11560)) (Nat.le_refl _) (Nat.le_refl _) ?_
    refine zl_aload_n hx hb zd_X9_covered_27 rfl (lv_at hl 1 rfl) ?_
    replace hf := zo_b hf; obtain ⟨v10, ev10, hf⟩ := hf
    obtain ⟨u11, u11e, u11v⟩ := zo_b ev10
    obtain rfl := zv_r_e u11v
    refine zw_get S hK hw zk_9 (k := 9) (by decide) rfl zm_316 (Or.inl rfl) u11e zd_X9_covered_28 ?_
    refine zl_aload_n hx hb zd_X9_covered_31 rfl (lv_at hl 0 rfl) ?_
    replace hf := zo_b hf; obtain ⟨a12, na12, hf⟩ := hf
    refine W.eq (g2 := F0 m 32 ls [va_rf ((some a12)), va_rf (v10)]) (by rw [na12] <;> rfl) ?_
    replace hf := zo_b hf; obtain ⟨r13, er13, hf⟩ := hf
    refine zw_callV (n := 0) (ci := 4) (q := zc_cl[4]) (As := []) (rest := [va_rf (v10)]) S hK hw (zt_X4_count l g r9 a12 _ er13) zm_662 zm_618 zm_619 zq_X4_count zm_84 (by decide +kernel) ⟨Nat.le_of_ble_eq_true rfl, Nat.le_of_ble_eq_true rfl⟩ rfl rfl rfl (zi_X4_count er13) hl.1 rfl (by simp [zv_cat, zv_ci, zv_cj]) zd_X9_covered_32 ⟨(by show ((0 + 0) + 289) + (0 : Nat) ≤ (289 : Nat); omega), (by show ((0 + 0) + 11560) + (0 : Nat) ≤ (11560 : Nat); omega)⟩ (fun H locs hw => ?_)
    replace hw : zc_W g r9 H locs := hw
    refine W.widen (k := (((0 + 0) + 289) + 0)) (n := (((0 + 0) + 11560) + 0)) (Nat.le_refl _) (Nat.le_refl _) ?_
    replace hf := zo_b hf; obtain ⟨a14, na14, hf⟩ := hf
    refine W.eq (g2 := F0 m 35 ls [.int (r13), va_rf ((some a14))]) (by rw [na14] <;> rfl) ?_
    replace hf := zo_b hf; obtain ⟨r15, er15, hf⟩ := hf
    refine zw_callV (n := 1) (ci := 7) (q := zc_cl[7]) (As := [.int (r13)]) (rest := []) S hK hw (zt_X7_linesIn l g r9 a14 r13 _ er15) zm_950 zm_951 zm_952 zq_X7_linesIn zm_76 (by decide +kernel) ⟨Nat.le_of_ble_eq_true rfl, Nat.le_of_ble_eq_true rfl⟩ rfl rfl rfl (zi_X7_linesIn er15) hl.1 rfl (by simp [zv_cat, zv_ci, zv_cj]) zd_X9_covered_35 ⟨(by show (((0 + 0) + 289) + 0) + (0 : Nat) ≤ (289 : Nat); omega), (by show (((0 + 0) + 11560) + 0) + (0 : Nat) ≤ (11560 : Nat); omega)⟩ (fun H locs hw => ?_)
    replace hw : zc_W g r9 H locs := hw
    refine W.widen (k := ((((0 + 0) + 289) + 0) + 0)) (n := ((((0 + 0) + 11560) + 0) + 0)) (Nat.le_refl _) (Nat.le_refl _) ?_
    have hres := Option.some.inj hf; subst hres
    exact zw_iret (v := r15) (ty := .int) hx hb hr hlk rfl hw zd_X9_covered_38 (by show _ ≤ (289 : Nat); omega) (by show _ ≤ (11560 : Nat); omega)
  · replace hf := zo_t c5 hf
    refine zl_aload_n hx hb zd_X9_covered_13 rfl (lv_at hl 1 rfl) ?_
    refine lv_iconst (v := (-1)) hx hb zd_X9_covered_14 (by decide) ?_
    replace hf := zo_b hf; obtain ⟨r16, er16, hf⟩ := hf
    refine zw_callV (n := 1) (ci := 9) (q := zc_cl[9]) (As := [.int ((-1))]) (rest := []) S hK hw (zt_X9_refuse l g h q (-1) _ er16) zm_349 zm_351 zm_1 zq_X9_refuse zm_68 (by decide +kernel) ⟨Nat.le_of_ble_eq_true rfl, Nat.le_of_ble_eq_true rfl⟩ rfl rfl rfl (zi_X9_refuse er16) hl.1 rfl (by simp [zv_cat, zv_ci, zv_cj]) zd_X9_covered_15 ⟨(by show (0 + 0) + (0 : Nat) ≤ (289 : Nat); omega), (by show (0 + 0) + (0 : Nat) ≤ (11560 : Nat); omega)⟩ (fun H locs hw => ?_)
    replace hw : zc_W g r16.1 H locs := hw
    refine W.widen (k := ((0 + 0) + 0)) (n := ((0 + 0) + 0)) (Nat.le_refl _) (Nat.le_refl _) ?_
    have hres := Option.some.inj hf; subst hres
    exact zw_iret (v := r16.2) (ty := .int) hx hb hr hlk rfl hw zd_X9_covered_18 (by show _ ≤ (289 : Nat); omega) (by show _ ≤ (11560 : Nat); omega)
def zf_X9_judge (h : zc_H) (q : Nat) (x1 : Int32) (x2 : Int32) (x3 : Int32) : Option (zc_H × Int32) :=
  if ¬ zf_is h q 9 = true then none else
  (zf_X9_shelfAt h q x1).bind fun r1 =>
  (zf_gr h q 9 1).bind fun v2 =>
  v2.bind fun a4 =>
  (zf_X6_remarkAt h a4 x2).bind fun r5 =>
  (zf_gr h q 9 1).bind fun v6 =>
  v6.bind fun a8 =>
  (zf_X6_revisionAt h a8 x3).bind fun r9 =>
  let k42 := fun (_ : Unit) =>
    (zf_X9_refuse h q (-11)).bind fun r11 =>
    some (r11.1, r11.2)
  if r1 = none then
    k42 ()
  else
  if r5 = none then
    k42 ()
  else
  if r9 = none then
    k42 ()
  else
  (zf_X9_unfitAsRow h r1).bind fun r14 =>
  if r14 = 0 then
    (zf_gr h q 9 8).bind fun v16 =>
    r5.bind fun a18 =>
    (zf_gr h a18 3 3).bind fun v19 =>
    v16.bind fun a21 =>
    (zf_X8_layWay h a21 v19 r9).bind fun r22 =>
    if r22.2 = 0 then
      (zf_X9_refuse r22.1 q (-16)).bind fun r37 =>
      some (r37.1, r37.2)
    else
    r1.bind fun a24 =>
    (zf_gi r22.1 a24 5 1).bind fun v25 =>
    (zf_gr r22.1 q 9 8).bind fun v27 =>
    v27.bind fun a29 =>
    (zf_X8_wayLength r22.1 a29).bind fun r30 =>
    if r30 ≤ v25 then
      (zf_gr r22.1 q 9 8).bind fun v32 =>
      v32.bind fun a34 =>
      (zf_X8_firstWrong r22.1 a34 r5 r1).bind fun r35 =>
      some (r35.1, r35.2)
    else
    (zf_X9_refuse r22.1 q (-15)).bind fun r36 =>
    some (r36.1, r36.2)
  else
  (zf_X9_refuse h q (r14 + (-10))).bind fun r38 =>
  some (r38.1, r38.2)
abbrev zr_X9_judge : Room := { frames := 9, cells := 17, slots := 680, locals := 251 }
theorem zi_X9_judge {h : zc_H} {q : Nat} {x1 : Int32} {x2 : Int32} {x3 : Int32} {res : zc_H × Int32} (hf : zf_X9_judge h q x1 x2 x3 = some res) : zf_is h q 9 = true := Decidable.not_not.mp (zo_n hf).1
set_option maxHeartbeats 4000000 in
set_option maxRecDepth 20000 in
theorem zt_X9_judge (l : Launch) (g : zc_G) (h : zc_H) (q : Nat) (x1 : Int32) (x2 : Int32) (x3 : Int32) (res : zc_H × Int32) (hf : zf_X9_judge h q x1 x2 x3 = some res) : zc_M l g yX9_judge cX9_judge 8 (some .int) zr_X9_judge h [va_rf ((some q)), .int (x1), .int (x2), .int (x3)] res.1 (some (.int (res.2))) := by
  refine zc_M.of (by decide) (by simp [lg_sl, zv_cat, zv_ci, zv_cj]) ?_
  intro p e s m below meth c ls S hK hw hr hlk hnm hl
  replace S : CallFix p m c cX9_judge 8 s [va_rf ((some q)), .int (x1), .int (x2), .int (x3)].toArray (zc_ws yX9_judge cX9_judge 8 (some .int)) RX9 := S
  have hx := S.1
  have hb := S.2.1
  replace hl : lv_has ls 8 [(0, va_rf ((some q))), (1, .int (x1)), (2, .int (x2)), (3, .int (x3))] := by simpa [lv_args, zv_cat, zv_ci, zv_cj] using hl
  generalize s.heap = H at hw ⊢
  obtain ⟨locs, hlocs⟩ : ∃ L : List Loc, L = [] := ⟨_, rfl⟩
  rw [← hlocs] at hw ⊢
  unfold zf_X9_judge at hf
  obtain ⟨-, hf⟩ := zo_n hf
  refine zl_aload_n hx hb zd_X9_judge_0 rfl (lv_at hl 0 rfl) ?_
  refine lv_iload_n hx hb zd_X9_judge_1 rfl (lv_at hl 1 rfl) ?_
  replace hf := zo_b hf; obtain ⟨r1, er1, hf⟩ := hf
  refine zw_callV (n := 1) (ci := 9) (q := zc_cl[9]) (As := [.int (x1)]) (rest := []) S hK hw (zt_X9_shelfAt l g h q x1 _ er1) zm_345 zm_347 zm_0 zq_X9_shelfAt zm_68 (by decide +kernel) ⟨Nat.le_of_ble_eq_true rfl, Nat.le_of_ble_eq_true rfl⟩ rfl rfl rfl (zi_X9_shelfAt er1) hl.1 rfl (by simp [zv_cat, zv_ci, zv_cj]) zd_X9_judge_2 ⟨(by show 0 + (0 : Nat) ≤ (17 : Nat); omega), (by show 0 + (0 : Nat) ≤ (680 : Nat); omega)⟩ (fun H locs hw => ?_)
  replace hw : zc_W g h H locs := hw
  refine W.widen (k := (0 + 0)) (n := (0 + 0)) (Nat.le_refl _) (Nat.le_refl _) ?_
  refine zl_astore (i := 4) (lv' := [(4, va_rf (r1)), (0, va_rf ((some q))), (1, .int (x1)), (2, .int (x2)), (3, .int (x3))]) hx hb zd_X9_judge_5 hl (by decide) rfl (fun ls hl => ?_)
  refine zl_aload_n hx hb zd_X9_judge_7 rfl (lv_at hl 1 rfl) ?_
  replace hf := zo_b hf; obtain ⟨v2, ev2, hf⟩ := hf
  obtain ⟨u3, u3e, u3v⟩ := zo_b ev2
  obtain rfl := zv_r_e u3v
  refine zw_get S hK hw zk_9 (k := 1) (by decide) rfl zm_308 (Or.inl rfl) u3e zd_X9_judge_8 ?_
  refine lv_iload_n hx hb zd_X9_judge_11 rfl (lv_at hl 3 rfl) ?_
  replace hf := zo_b hf; obtain ⟨a4, na4, hf⟩ := hf
  refine W.eq (g2 := F0 m 12 ls [.int (x2), va_rf ((some a4))]) (by rw [na4] <;> rfl) ?_
  replace hf := zo_b hf; obtain ⟨r5, er5, hf⟩ := hf
  refine zw_callV (n := 1) (ci := 6) (q := zc_cl[6]) (As := [.int (x2)]) (rest := []) S hK hw (zt_X6_remarkAt l g h a4 x2 _ er5) zm_420 zm_421 zm_422 zq_X6_remarkAt zm_69 (by decide +kernel) ⟨Nat.le_of_ble_eq_true rfl, Nat.le_of_ble_eq_true rfl⟩ rfl rfl rfl (zi_X6_remarkAt er5) hl.1 rfl (by simp [zv_cat, zv_ci, zv_cj]) zd_X9_judge_12 ⟨(by show (0 + 0) + (0 : Nat) ≤ (17 : Nat); omega), (by show (0 + 0) + (0 : Nat) ≤ (680 : Nat); omega)⟩ (fun H locs hw => ?_)
  replace hw : zc_W g h H locs := hw
  refine W.widen (k := ((0 + 0) + 0)) (n := ((0 + 0) + 0)) (Nat.le_refl _) (Nat.le_refl _) ?_
  refine zl_astore (i := 5) (lv' := [(5, va_rf (r5)), (4, va_rf (r1)), (0, va_rf ((some q))), (1, .int (x1)), (2, .int (x2)), (3, .int (x3))]) hx hb zd_X9_judge_15 hl (by decide) (by simp [List.filter, zv_cat, zv_ci, zv_cj]) (fun ls hl => ?_)
  refine zl_aload_n hx hb zd_X9_judge_17 rfl (lv_at hl 2 rfl) ?_
  replace hf := zo_b hf; obtain ⟨v6, ev6, hf⟩ := hf
  obtain ⟨u7, u7e, u7v⟩ := zo_b ev6
  obtain rfl := zv_r_e u7v
  refine zw_get S hK hw zk_9 (k := 1) (by decide) rfl zm_308 (Or.inl rfl) u7e zd_X9_judge_18 ?_
  refine lv_iload_n hx hb zd_X9_judge_21 rfl (lv_at hl 5 rfl) ?_
  replace hf := zo_b hf; obtain ⟨a8, na8, hf⟩ := hf
  refine W.eq (g2 := F0 m 22 ls [.int (x3), va_rf ((some a8))]) (by rw [na8] <;> rfl) ?_
  replace hf := zo_b hf; obtain ⟨r9, er9, hf⟩ := hf
  refine zw_callV (n := 1) (ci := 6) (q := zc_cl[6]) (As := [.int (x3)]) (rest := []) S hK hw (zt_X6_revisionAt l g h a8 x3 _ er9) zm_482 zm_483 zm_484 zq_X6_revisionAt zm_69 (by decide +kernel) ⟨Nat.le_of_ble_eq_true rfl, Nat.le_of_ble_eq_true rfl⟩ rfl rfl rfl (zi_X6_revisionAt er9) hl.1 rfl (by simp [zv_cat, zv_ci, zv_cj]) zd_X9_judge_22 ⟨(by show ((0 + 0) + 0) + (0 : Nat) ≤ (17 : Nat); omega), (by show ((0 + 0) + 0) + (0 : Nat) ≤ (680 : Nat); omega)⟩ (fun H locs hw => ?_)
  replace hw : zc_W g h H locs := hw
  refine W.widen (k := (((0 + 0) + 0) + 0)) (n := (((0 + 0) + 0) + 0)) (Nat.le_refl _) (Nat.le_refl _) ?_
  refine zl_astore (i := 6) (lv' := [(6, va_rf (r9)), (5, va_rf (r5)), (4, va_rf (r1)), (0, va_rf ((some q))), (1, .int (x1)), (2, .int (x2)), (3, .int (x3))]) hx hb zd_X9_judge_25 hl (by decide) (by simp [List.filter, zv_cat, zv_ci, zv_cj]) (fun ls hl => ?_)
  refine zl_aload hx hb zd_X9_judge_27 (lv_at hl 2 rfl) ?_
  have k42h : ∀ (_ : Unit) (H : Heap) (locs : List Loc) (ls : Array Slot), (
      (zf_X9_refuse h q (-11)).bind fun r11 =>
      some (r11.1, r11.2)
      ) = some res → zc_W g h H locs → lv_has ls 8 [(0, va_rf ((some q)))] → W p l e zr_X9_judge s m [va_rf ((some q)), .int (x1), .int (x2), .int (x3)].toArray below meth c H locs (((0 + 0) + 0) + 0) (((0 + 0) + 0) + 0) (zc_Q g below zr_X9_judge (some (.int (res.2))) res.1 [va_rf ((some q)), .int (x1), .int (x2), .int (x3)] s) (F0 m 42 ls []) := by
    intro _ H locs ls hf hw hl
    refine zl_aload_n hx hb zd_X9_judge_42 rfl (lv_at hl 0 rfl) ?_
    refine lv_bipush (v := (-11)) hx hb zd_X9_judge_43 (by decide) ?_
    replace hf := zo_b hf; obtain ⟨r11, er11, hf⟩ := hf
    refine zw_callV (n := 1) (ci := 9) (q := zc_cl[9]) (As := [.int ((-11))]) (rest := []) S hK hw (zt_X9_refuse l g h q (-11) _ er11) zm_349 zm_351 zm_1 zq_X9_refuse zm_68 (by decide +kernel) ⟨Nat.le_of_ble_eq_true rfl, Nat.le_of_ble_eq_true rfl⟩ rfl rfl rfl (zi_X9_refuse er11) hl.1 rfl (by simp [zv_cat, zv_ci, zv_cj]) zd_X9_judge_45 ⟨(by show (((0 + 0) + 0) + 0) + (0 : Nat) ≤ (17 : Nat); omega), (by show (((0 + 0) + 0) + 0) + (0 : Nat) ≤ (680 : Nat); omega)⟩ (fun H locs hw => ?_)
    replace hw : zc_W g r11.1 H locs := hw
    refine W.widen (k := ((((0 + 0) + 0) + 0) + 0)) (n := ((((0 + 0) + 0) + 0) + 0)) (Nat.le_refl _) (Nat.le_refl _) ?_
    have hres := Option.some.inj hf; subst hres
    exact zw_iret (v := r11.2) (ty := .int) hx hb hr hlk rfl hw zd_X9_judge_48 (by show _ ≤ (17 : Nat); omega) (by show _ ≤ (680 : Nat); omega)
  refine zl_ifnull (tgt := 42) hx hb zd_X9_judge_29 (by decide) (fun c10 => ?_) (fun c10 => ?_)
  · replace hf := zo_t c10 hf
    exact k42h () _ _ _ hf hw (lv_sub hl [3] rfl)
  · replace hf := zo_f c10 hf
    refine zl_aload hx hb zd_X9_judge_32 (lv_at hl 1 rfl) ?_
    refine zl_ifnull (tgt := 42) hx hb zd_X9_judge_34 (by decide) (fun c12 => ?_) (fun c12 => ?_)
    · replace hf := zo_t c12 hf
      exact k42h () _ _ _ hf hw (lv_sub hl [3] rfl)
    · replace hf := zo_f c12 hf
      refine zl_aload hx hb zd_X9_judge_37 (lv_at hl 0 rfl) ?_
      refine zl_ifnonnull (tgt := 49) hx hb zd_X9_judge_39 (by decide) (fun c13 => ?_) (fun c13 => ?_)
      · replace hf := zo_f c13 hf
        refine zl_aload hx hb zd_X9_judge_49 (lv_at hl 2 rfl) ?_
        replace hf := zo_b hf; obtain ⟨r14, er14, hf⟩ := hf
        refine zw_callS (n := 1) (As := [va_rf (r1)]) (rest := []) S hK hw (zt_X9_unfitAsRow l g h r1 _ er14) zm_364 zm_365 zq_X9_unfitAsRow zm_68 (by decide +kernel) ⟨Nat.le_of_ble_eq_true rfl, Nat.le_of_ble_eq_true rfl⟩ rfl hl.1 rfl (by simp [zv_cat, zv_ci, zv_cj]) zd_X9_judge_51 ⟨(by show (((0 + 0) + 0) + 0) + (0 : Nat) ≤ (17 : Nat); omega), (by show (((0 + 0) + 0) + 0) + (0 : Nat) ≤ (680 : Nat); omega)⟩ (fun H locs hw => ?_)
        replace hw : zc_W g h H locs := hw
        refine W.widen (k := ((((0 + 0) + 0) + 0) + 0)) (n := ((((0 + 0) + 0) + 0) + 0)) (Nat.le_refl _) (Nat.le_refl _) ?_
        refine lv_istore (i := 7) (lv' := [(7, .int (r14)), (6, va_rf (r9)), (5, va_rf (r5)), (4, va_rf (r1)), (0, va_rf ((some q))), (1, .int (x1)), (2, .int (x2)), (3, .int (x3))]) hx hb zd_X9_judge_54 hl (by decide) (by simp [List.filter, zv_cat, zv_ci, zv_cj]) (fun ls hl => ?_)
        refine lv_iload hx hb zd_X9_judge_56 (lv_at hl 0 rfl) ?_
        refine lv_if_eq (tgt := 71) hx hb zd_X9_judge_58 (by decide) (fun c15 => ?_) (fun c15 => ?_)
        · replace hf := zo_t c15 hf
          refine zl_aload_n hx hb zd_X9_judge_71 rfl (lv_at hl 4 rfl) ?_
          replace hf := zo_b hf; obtain ⟨v16, ev16, hf⟩ := hf
          obtain ⟨u17, u17e, u17v⟩ := zo_b ev16
          obtain rfl := zv_r_e u17v
          refine zw_get S hK hw zk_9 (k := 8) (by decide) rfl zm_315 (Or.inl rfl) u17e zd_X9_judge_72 ?_
          refine zl_aload hx hb zd_X9_judge_75 (lv_at hl 2 rfl) ?_
          replace hf := zo_b hf; obtain ⟨a18, na18, hf⟩ := hf
          refine W.eq (g2 := F0 m 77 ls [va_rf ((some a18)), va_rf (v16)]) (by rw [na18] <;> rfl) ?_
          replace hf := zo_b hf; obtain ⟨v19, ev19, hf⟩ := hf
          obtain ⟨u20, u20e, u20v⟩ := zo_b ev19
          obtain rfl := zv_r_e u20v
          refine zw_get S hK hw zk_3 (k := 3) (by decide) rfl zm_768 (Or.inl rfl) u20e zd_X9_judge_77 ?_
          refine zl_aload hx hb zd_X9_judge_80 (lv_at hl 1 rfl) ?_
          replace hf := zo_b hf; obtain ⟨a21, na21, hf⟩ := hf
          refine W.eq (g2 := F0 m 82 ls [va_rf (r9), va_rf (v19), va_rf ((some a21))]) (by rw [na21] <;> rfl) ?_
          replace hf := zo_b hf; obtain ⟨r22, er22, hf⟩ := hf
          refine zw_callV (n := 2) (ci := 8) (q := zc_cl[8]) (As := [va_rf (v19), va_rf (r9)]) (rest := []) S hK hw (zt_X8_layWay l g h a21 v19 r9 _ er22) zm_714 zm_715 zm_716 zq_X8_layWay zm_75 (by decide +kernel) ⟨Nat.le_of_ble_eq_true rfl, Nat.le_of_ble_eq_true rfl⟩ rfl rfl rfl (zi_X8_layWay er22) hl.1 rfl (by simp [zv_cat, zv_ci, zv_cj]) zd_X9_judge_82 ⟨(by show ((((0 + 0) + 0) + 0) + 0) + (17 : Nat) ≤ (17 : Nat); omega), (by show ((((0 + 0) + 0) + 0) + 0) + (680 : Nat) ≤ (680 : Nat); omega)⟩ (fun H locs hw => ?_)
          replace hw : zc_W g r22.1 H locs := hw
          refine W.widen (k := (((((0 + 0) + 0) + 0) + 0) + 17)) (n := (((((0 + 0) + 0) + 0) + 0) + 680)) (Nat.le_refl _) (Nat.le_refl _) ?_
          refine lv_if_ne (tgt := 95) hx hb zd_X9_judge_85 (by decide) (fun c23 => ?_) (fun c23 => ?_)
          · replace hf := zo_f c23 hf
            refine zl_aload hx hb zd_X9_judge_95 (lv_at hl 3 rfl) ?_
            replace hf := zo_b hf; obtain ⟨a24, na24, hf⟩ := hf
            refine W.eq (g2 := F0 m 97 ls [va_rf ((some a24))]) (by rw [na24] <;> rfl) ?_
            replace hf := zo_b hf; obtain ⟨v25, ev25, hf⟩ := hf
            obtain ⟨u26, u26e, u26v⟩ := zo_b ev25
            obtain rfl := zv_i_e u26v
            refine zw_get S hK hw zk_5 (k := 1) (by decide) rfl zm_298 (Or.inl rfl) u26e zd_X9_judge_97 ?_
            refine zl_aload_n hx hb zd_X9_judge_100 rfl (lv_at hl 4 rfl) ?_
            replace hf := zo_b hf; obtain ⟨v27, ev27, hf⟩ := hf
            obtain ⟨u28, u28e, u28v⟩ := zo_b ev27
            obtain rfl := zv_r_e u28v
            refine zw_get S hK hw zk_9 (k := 8) (by decide) rfl zm_315 (Or.inl rfl) u28e zd_X9_judge_101 ?_
            replace hf := zo_b hf; obtain ⟨a29, na29, hf⟩ := hf
            refine W.eq (g2 := F0 m 104 ls [va_rf ((some a29)), .int (v25)]) (by rw [na29] <;> rfl) ?_
            replace hf := zo_b hf; obtain ⟨r30, er30, hf⟩ := hf
            refine zw_callV (n := 0) (ci := 8) (q := zc_cl[8]) (As := []) (rest := [.int (v25)]) S hK hw (zt_X8_wayLength l g r22.1 a29 _ er30) zm_958 zm_959 zm_960 zq_X8_wayLength zm_75 (by decide +kernel) ⟨Nat.le_of_ble_eq_true rfl, Nat.le_of_ble_eq_true rfl⟩ rfl rfl rfl (zi_X8_wayLength er30) hl.1 rfl (by simp [zv_cat, zv_ci, zv_cj]) zd_X9_judge_104 ⟨(by show (((((0 + 0) + 0) + 0) + 0) + 17) + (0 : Nat) ≤ (17 : Nat); omega), (by show (((((0 + 0) + 0) + 0) + 0) + 680) + (0 : Nat) ≤ (680 : Nat); omega)⟩ (fun H locs hw => ?_)
            replace hw : zc_W g r22.1 H locs := hw
            refine W.widen (k := ((((((0 + 0) + 0) + 0) + 0) + 17) + 0)) (n := ((((((0 + 0) + 0) + 0) + 0) + 680) + 0)) (Nat.le_refl _) (Nat.le_refl _) ?_
            refine lv_icmp_ge (tgt := 117) hx hb zd_X9_judge_107 (by decide) (fun c31 => ?_) (fun c31 => ?_)
            · replace hf := zo_t c31 hf
              refine zl_aload_n hx hb zd_X9_judge_117 rfl (lv_at hl 4 rfl) ?_
              replace hf := zo_b hf; obtain ⟨v32, ev32, hf⟩ := hf
              obtain ⟨u33, u33e, u33v⟩ := zo_b ev32
              obtain rfl := zv_r_e u33v
              refine zw_get S hK hw zk_9 (k := 8) (by decide) rfl zm_315 (Or.inl rfl) u33e zd_X9_judge_118 ?_
              refine zl_aload hx hb zd_X9_judge_121 (lv_at hl 2 rfl) ?_
              refine zl_aload hx hb zd_X9_judge_123 (lv_at hl 3 rfl) ?_
              replace hf := zo_b hf; obtain ⟨a34, na34, hf⟩ := hf
              refine W.eq (g2 := F0 m 125 ls [va_rf (r1), va_rf (r5), va_rf ((some a34))]) (by rw [na34] <;> rfl) ?_
              replace hf := zo_b hf; obtain ⟨r35, er35, hf⟩ := hf
              refine zw_callV (n := 2) (ci := 8) (q := zc_cl[8]) (As := [va_rf (r5), va_rf (r1)]) (rest := []) S hK hw (zt_X8_firstWrong l g r22.1 a34 r5 r1 _ er35) zm_962 zm_963 zm_964 zq_X8_firstWrong zm_75 (by decide +kernel) ⟨Nat.le_of_ble_eq_true rfl, Nat.le_of_ble_eq_true rfl⟩ rfl rfl rfl (zi_X8_firstWrong er35) hl.1 rfl (by simp [zv_cat, zv_ci, zv_cj]) zd_X9_judge_125 ⟨(by show ((((((0 + 0) + 0) + 0) + 0) + 17) + 0) + (0 : Nat) ≤ (17 : Nat); omega), (by show ((((((0 + 0) + 0) + 0) + 0) + 680) + 0) + (0 : Nat) ≤ (680 : Nat); omega)⟩ (fun H locs hw => ?_)
              replace hw : zc_W g r35.1 H locs := hw
              refine W.widen (k := (((((((0 + 0) + 0) + 0) + 0) + 17) + 0) + 0)) (n := (((((((0 + 0) + 0) + 0) + 0) + 680) + 0) + 0)) (Nat.le_refl _) (Nat.le_refl _) ?_
              have hres := Option.some.inj hf; subst hres
              exact zw_iret (v := r35.2) (ty := .int) hx hb hr hlk rfl hw zd_X9_judge_128 (by show _ ≤ (17 : Nat); omega) (by show _ ≤ (680 : Nat); omega)
            · replace hf := zo_f c31 hf
              refine zl_aload_n hx hb zd_X9_judge_110 rfl (lv_at hl 4 rfl) ?_
              refine lv_bipush (v := (-15)) hx hb zd_X9_judge_111 (by decide) ?_
              replace hf := zo_b hf; obtain ⟨r36, er36, hf⟩ := hf
              refine zw_callV (n := 1) (ci := 9) (q := zc_cl[9]) (As := [.int ((-15))]) (rest := []) S hK hw (zt_X9_refuse l g r22.1 q (-15) _ er36) zm_349 zm_351 zm_1 zq_X9_refuse zm_68 (by decide +kernel) ⟨Nat.le_of_ble_eq_true rfl, Nat.le_of_ble_eq_true rfl⟩ rfl rfl rfl (zi_X9_refuse er36) hl.1 rfl (by simp [zv_cat, zv_ci, zv_cj]) zd_X9_judge_113 ⟨(by show ((((((0 + 0) + 0) + 0) + 0) + 17) + 0) + (0 : Nat) ≤ (17 : Nat); omega), (by show ((((((0 + 0) + 0) + 0) + 0) + 680) + 0) + (0 : Nat) ≤ (680 : Nat); omega)⟩ (fun H locs hw => ?_)
              replace hw : zc_W g r36.1 H locs := hw
              refine W.widen (k := (((((((0 + 0) + 0) + 0) + 0) + 17) + 0) + 0)) (n := (((((((0 + 0) + 0) + 0) + 0) + 680) + 0) + 0)) (Nat.le_refl _) (Nat.le_refl _) ?_
              have hres := Option.some.inj hf; subst hres
              exact zw_iret (v := r36.2) (ty := .int) hx hb hr hlk rfl hw zd_X9_judge_116 (by show _ ≤ (17 : Nat); omega) (by show _ ≤ (680 : Nat); omega)
          · replace hf := zo_t c23 hf
            refine zl_aload_n hx hb zd_X9_judge_88 rfl (lv_at hl 4 rfl) ?_
            refine lv_bipush (v := (-16)) hx hb zd_X9_judge_89 (by decide) ?_
            replace hf := zo_b hf; obtain ⟨r37, er37, hf⟩ := hf
            refine zw_callV (n := 1) (ci := 9) (q := zc_cl[9]) (As := [.int ((-16))]) (rest := []) S hK hw (zt_X9_refuse l g r22.1 q (-16) _ er37) zm_349 zm_351 zm_1 zq_X9_refuse zm_68 (by decide +kernel) ⟨Nat.le_of_ble_eq_true rfl, Nat.le_of_ble_eq_true rfl⟩ rfl rfl rfl (zi_X9_refuse er37) hl.1 rfl (by simp [zv_cat, zv_ci, zv_cj]) zd_X9_judge_91 ⟨(by show (((((0 + 0) + 0) + 0) + 0) + 17) + (0 : Nat) ≤ (17 : Nat); omega), (by show (((((0 + 0) + 0) + 0) + 0) + 680) + (0 : Nat) ≤ (680 : Nat); omega)⟩ (fun H locs hw => ?_)
            replace hw : zc_W g r37.1 H locs := hw
            refine W.widen (k := ((((((0 + 0) + 0) + 0) + 0) + 17) + 0)) (n := ((((((0 + 0) + 0) + 0) + 0) + 680) + 0)) (Nat.le_refl _) (Nat.le_refl _) ?_
            have hres := Option.some.inj hf; subst hres
            exact zw_iret (v := r37.2) (ty := .int) hx hb hr hlk rfl hw zd_X9_judge_94 (by show _ ≤ (17 : Nat); omega) (by show _ ≤ (680 : Nat); omega)
        · replace hf := zo_f c15 hf
          refine zl_aload_n hx hb zd_X9_judge_61 rfl (lv_at hl 4 rfl) ?_
          refine lv_iload hx hb zd_X9_judge_62 (lv_at hl 0 rfl) ?_
          refine lv_bipush (v := (-10)) hx hb zd_X9_judge_64 (by decide) ?_
          refine lv_iadd hx hb zd_X9_judge_66 ?_
          replace hf := zo_b hf; obtain ⟨r38, er38, hf⟩ := hf
          refine zw_callV (n := 1) (ci := 9) (q := zc_cl[9]) (As := [.int ((r14 + (-10)))]) (rest := []) S hK hw (zt_X9_refuse l g h q (r14 + (-10)) _ er38) zm_349 zm_351 zm_1 zq_X9_refuse zm_68 (by decide +kernel) ⟨Nat.le_of_ble_eq_true rfl, Nat.le_of_ble_eq_true rfl⟩ rfl rfl rfl (zi_X9_refuse er38) hl.1 rfl (by simp [zv_cat, zv_ci, zv_cj]) zd_X9_judge_67 ⟨(by show ((((0 + 0) + 0) + 0) + 0) + (0 : Nat) ≤ (17 : Nat); omega), (by show ((((0 + 0) + 0) + 0) + 0) + (0 : Nat) ≤ (680 : Nat); omega)⟩ (fun H locs hw => ?_)
          replace hw : zc_W g r38.1 H locs := hw
          refine W.widen (k := (((((0 + 0) + 0) + 0) + 0) + 0)) (n := (((((0 + 0) + 0) + 0) + 0) + 0)) (Nat.le_refl _) (Nat.le_refl _) ?_
          have hres := Option.some.inj hf; subst hres
          exact zw_iret (v := r38.2) (ty := .int) hx hb hr hlk rfl hw zd_X9_judge_70 (by show _ ≤ (17 : Nat); omega) (by show _ ≤ (680 : Nat); omega)
      · replace hf := zo_t c13 hf
        exact k42h () _ _ _ hf hw (lv_sub hl [3] rfl)
