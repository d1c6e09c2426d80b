def zf_X10_drift_L51 (q : Nat) (y1 : Int32) : Nat → zc_H → Int32 → Option (zc_H)
  | 0, _, _ => none
  | n + 1, h, y2 =>
    if y1 ≤ y2 then
      some h
    else
    (zf_X10_drifts h q).bind fun r10 =>
    zf_X10_drift_L51 q y1 n r10 (y2 + 1)
def zf_X10_drift (h : zc_H) (q : Nat) (x1 : Int32) : Option (zc_H × Int32) :=
  if ¬ zf_is h q 10 = true then none else
  (zf_gi h q 10 0).bind fun v1 =>
  if v1 = 0 then
    (zf_X10_no h q (-5)).bind fun r16 =>
    some (r16.1, r16.2)
  else
  (zf_X10_within h x1 1 15).bind fun r4 =>
  if r4 = 0 then
    (zf_X10_no h q (-6)).bind fun r15 =>
    some (r15.1, r15.2)
  else
  (zf_gi h q 10 0).bind fun v6 =>
  if (v6 + x1) ≤ 16 then
    (zf_X10_drift_L51 q x1 2000 h 0).bind fun w11 =>
    (zf_gi w11 q 10 0).bind fun v12 =>
    some (w11, (v12 - 1))
  else
  (zf_X10_no h q (-7)).bind fun r14 =>
  some (r14.1, r14.2)
abbrev zr_X10_drift : Room := { frames := 7, cells := 0, slots := 0, locals := 171 }
theorem zi_X10_drift {h : zc_H} {q : Nat} {x1 : Int32} {res : zc_H × Int32} (hf : zf_X10_drift h q x1 = some res) : zf_is h q 10 = true := Decidable.not_not.mp (zo_n hf).1
set_option maxHeartbeats 4000000 in
set_option maxRecDepth 20000 in
theorem zt_X10_drift (l : Launch) (g : zc_G) (h : zc_H) (q : Nat) (x1 : Int32) (res : zc_H × Int32) (hf : zf_X10_drift h q x1 = some res) : zc_M l g yX10_drift cX10_drift 3 (some .int) zr_X10_drift h [va_rf ((some q)), .int (x1)] res.1 (some (.int (res.2))) := by
  refine zc_M.of (by decide) (by simp [lg_sl, zv_cat, zv_ci, zv_cj]) ?_
  intro p e s m below meth c ls S hK hw hr hlk hnm hl
  replace S : CallFix p m c cX10_drift 3 s [va_rf ((some q)), .int (x1)].toArray (zc_ws yX10_drift cX10_drift 3 (some .int)) RX10 := S
  have hx := S.1
  have hb := S.2.1
  replace hl : lv_has ls 3 [(0, va_rf ((some q))), (1, .int (x1))] := by simpa [lv_args, zv_cat, zv_ci, zv_cj] using hl
  generalize s.heap = H at hw ⊢
  obtain ⟨locs, hlocs⟩ : ∃ L : List Loc, L = [] := ⟨_, rfl⟩
  rw [← hlocs] at hw ⊢
  have L51 : ∀ (y1 : Int32) (n : Nat) (h : zc_H) (y2 : Int32) (w : zc_H) (H : Heap) (locs : List Loc) (ls : Array Slot), zf_X10_drift_L51 q y1 n h y2 = some w → zc_W g h H locs → lv_has ls 3 [(0, va_rf ((some q))), (1, .int (y1)), (2, .int (y2))] → (∀ (H : Heap) (locs : List Loc) (ls : Array Slot), zc_W g w H locs → lv_has ls 3 [(0, va_rf ((some q)))] → W p l e zr_X10_drift s m [va_rf ((some q)), .int (x1)].toArray below meth c H locs 0 0 (zc_Q g below zr_X10_drift (some (.int (res.2))) res.1 [va_rf ((some q)), .int (x1)] s) (F0 m 66 ls [])) → W p l e zr_X10_drift s m [va_rf ((some q)), .int (x1)].toArray below meth c H locs 0 0 (zc_Q g below zr_X10_drift (some (.int (res.2))) res.1 [va_rf ((some q)), .int (x1)] s) (F0 m 51 ls []) := by
    intro y1 n
    induction n with
    | zero =>
      intro h y2 w H locs ls hf
      cases hf
    | succ n ih =>
      intro h y2 w H locs ls hf hw hl  kk
      unfold zf_X10_drift_L51 at hf
      refine lv_iload_n hx hb zd_X10_drift_51 rfl (lv_at hl 2 rfl) ?_
      refine lv_iload_n hx hb zd_X10_drift_52 rfl (lv_at hl 1 rfl) ?_
      refine lv_icmp_ge (tgt := 66) hx hb zd_X10_drift_53 (by decide) (fun c9 => ?_) (fun c9 => ?_)
      · replace hf := zo_t c9 hf
        have hres := Option.some.inj hf; subst hres
        exact kk _ _ _ hw (lv_sub hl [0] rfl)
      · replace hf := zo_f c9 hf
        refine zl_aload_n hx hb zd_X10_drift_56 rfl (lv_at hl 0 rfl) ?_
        replace hf := zo_b hf; obtain ⟨r10, er10, hf⟩ := hf
        refine zw_callV (n := 0) (ci := 10) (q := zc_cl[10]) (As := []) (rest := []) S hK hw (zt_X10_drifts l g h q _ er10) zm_1484 zm_1486 zm_59 zq_X10_drifts zm_79 (by decide +kernel) ⟨Nat.le_of_ble_eq_true rfl, Nat.le_of_ble_eq_true rfl⟩ rfl rfl rfl (zi_X10_drifts er10) hl.1 rfl (by simp [zv_cat, zv_ci, zv_cj]) zd_X10_drift_57 ⟨(Nat.le_refl 0), (Nat.le_refl 0)⟩ (fun H locs hw => ?_)
        replace hw : zc_W g r10 H locs := hw
        refine lv_iinc (i := 2) (v := (y2 + 1)) (lv' := [(2, .int ((y2 + 1))), (0, va_rf ((some q))), (1, .int (y1))]) hx hb zd_X10_drift_60 hl (k := 2) rfl (congrArg (_ + ·) (by decide)) (by decide) rfl (fun ls hl => ?_)
        refine lv_goto (tgt := 51) hx hb zd_X10_drift_63 (by decide) ?_
        exact ih r10 (y2 + 1) _ _ _ _ hf hw (lv_sub hl [1, 2, 0] rfl) kk
  unfold zf_X10_drift at hf
  obtain ⟨-, hf⟩ := zo_n hf
  refine zl_aload_n hx hb zd_X10_drift_0 rfl (lv_at hl 0 rfl) ?_
  replace hf := zo_b hf; obtain ⟨v1, ev1, hf⟩ := hf
  obtain ⟨u2, u2e, u2v⟩ := zo_b ev1
  obtain rfl := zv_i_e u2v
  refine zw_get S hK hw zk_10 (k := 0) (by decide) rfl zm_1088 (Or.inl rfl) u2e zd_X10_drift_1 ?_
  refine lv_if_ne (tgt := 14) hx hb zd_X10_drift_4 (by decide) (fun c3 => ?_) (fun c3 => ?_)
  · replace hf := zo_f c3 hf
    refine lv_iload_n hx hb zd_X10_drift_14 rfl (lv_at hl 1 rfl) ?_
    refine lv_iconst (v := 1) hx hb zd_X10_drift_15 (by decide) ?_
    refine lv_bipush (v := 15) hx hb zd_X10_drift_16 (by decide) ?_
    replace hf := zo_b hf; obtain ⟨r4, er4, hf⟩ := hf
    refine zw_callS (n := 3) (As := [.int (x1), .int (1), .int (15)]) (rest := []) S hK hw (zt_X10_within l g h x1 1 15 _ er4) zm_1216 zm_1217 zq_X10_within zm_79 (by decide +kernel) ⟨Nat.le_of_ble_eq_true rfl, Nat.le_of_ble_eq_true rfl⟩ rfl hl.1 rfl (by simp [zv_cat, zv_ci, zv_cj]) zd_X10_drift_18 ⟨(Nat.le_refl 0), (Nat.le_refl 0)⟩ (fun H locs hw => ?_)
    replace hw : zc_W g h H locs := hw
    refine lv_if_ne (tgt := 31) hx hb zd_X10_drift_21 (by decide) (fun c5 => ?_) (fun c5 => ?_)
    · replace hf := zo_f c5 hf
      refine zl_aload_n hx hb zd_X10_drift_31 rfl (lv_at hl 0 rfl) ?_
      replace hf := zo_b hf; obtain ⟨v6, ev6, hf⟩ := hf
      obtain ⟨u7, u7e, u7v⟩ := zo_b ev6
      obtain rfl := zv_i_e u7v
      refine zw_get S hK hw zk_10 (k := 0) (by decide) rfl zm_1088 (Or.inl rfl) u7e zd_X10_drift_32 ?_
      refine lv_iload_n hx hb zd_X10_drift_35 rfl (lv_at hl 1 rfl) ?_
      refine lv_iadd hx hb zd_X10_drift_36 ?_
      refine lv_bipush (v := 16) hx hb zd_X10_drift_37 (by decide) ?_
      refine lv_icmp_le (tgt := 49) hx hb zd_X10_drift_39 (by decide) (fun c8 => ?_) (fun c8 => ?_)
      · replace hf := zo_t c8 hf
        refine lv_iconst (v := 0) hx hb zd_X10_drift_49 (by decide) ?_
        refine lv_istore_n (i := 2) (lv' := [(2, .int (0)), (0, va_rf ((some q))), (1, .int (x1))]) hx hb zd_X10_drift_50 rfl hl (by decide) rfl (fun ls hl => ?_)
        replace hf := zo_b hf; obtain ⟨w11, w11e, hf⟩ := hf
        refine L51 x1 2000 h 0 _ _ _ _ w11e hw (lv_sub hl [1, 2, 0] rfl) (fun H locs ls hw hl => ?_)
        refine zl_aload_n hx hb zd_X10_drift_66 rfl (lv_at hl 0 rfl) ?_
        replace hf := zo_b hf; obtain ⟨v12, ev12, hf⟩ := hf
        obtain ⟨u13, u13e, u13v⟩ := zo_b ev12
        obtain rfl := zv_i_e u13v
        refine zw_get S hK hw zk_10 (k := 0) (by decide) rfl zm_1088 (Or.inl rfl) u13e zd_X10_drift_67 ?_
        refine lv_iconst (v := 1) hx hb zd_X10_drift_70 (by decide) ?_
        refine lv_isub hx hb zd_X10_drift_71 ?_
        have hres := Option.some.inj hf; subst hres
        exact zw_iret (v := (v12 - 1)) (ty := .int) hx hb hr hlk rfl hw zd_X10_drift_72 (Nat.le_refl 0) (Nat.le_refl 0)
      · replace hf := zo_f c8 hf
        refine zl_aload_n hx hb zd_X10_drift_42 rfl (lv_at hl 0 rfl) ?_
        refine lv_bipush (v := (-7)) hx hb zd_X10_drift_43 (by decide) ?_
        replace hf := zo_b hf; obtain ⟨r14, er14, hf⟩ := hf
        refine zw_callV (n := 1) (ci := 10) (q := zc_cl[10]) (As := [.int ((-7))]) (rest := []) S hK hw (zt_X10_no l g h q (-7) _ er14) zm_1219 zm_1221 zm_24 zq_X10_no zm_79 (by decide +kernel) ⟨Nat.le_of_ble_eq_true rfl, Nat.le_of_ble_eq_true rfl⟩ rfl rfl rfl (zi_X10_no er14) hl.1 rfl (by simp [zv_cat, zv_ci, zv_cj]) zd_X10_drift_45 ⟨(Nat.le_refl 0), (Nat.le_refl 0)⟩ (fun H locs hw => ?_)
        replace hw : zc_W g r14.1 H locs := hw
        have hres := Option.some.inj hf; subst hres
        exact zw_iret (v := r14.2) (ty := .int) hx hb hr hlk rfl hw zd_X10_drift_48 (Nat.le_refl 0) (Nat.le_refl 0)
    · replace hf := zo_t c5 hf
      refine zl_aload_n hx hb zd_X10_drift_24 rfl (lv_at hl 0 rfl) ?_
      refine lv_bipush (v := (-6)) hx hb zd_X10_drift_25 (by decide) ?_
      replace hf := zo_b hf; obtain ⟨r15, er15, hf⟩ := hf
      refine zw_callV (n := 1) (ci := 10) (q := zc_cl[10]) (As := [.int ((-6))]) (rest := []) S hK hw (zt_X10_no l g h q (-6) _ er15) zm_1219 zm_1221 zm_24 zq_X10_no zm_79 (by decide +kernel) ⟨Nat.le_of_ble_eq_true rfl, Nat.le_of_ble_eq_true rfl⟩ rfl rfl rfl (zi_X10_no er15) hl.1 rfl (by simp [zv_cat, zv_ci, zv_cj]) zd_X10_drift_27 ⟨(Nat.le_refl 0), (Nat.le_refl 0)⟩ (fun H locs hw => ?_)
      replace hw : zc_W g r15.1 H locs := hw
      have hres := Option.some.inj hf; subst hres
      exact zw_iret (v := r15.2) (ty := .int) hx hb hr hlk rfl hw zd_X10_drift_30 (Nat.le_refl 0) (Nat.le_refl 0)
  · replace hf := zo_t c3 hf
    refine zl_aload_n hx hb zd_X10_drift_7 rfl (lv_at hl 0 rfl) ?_
    refine lv_bipush (v := (-5)) hx hb zd_X10_drift_8 (by decide) ?_
    replace hf := zo_b hf; obtain ⟨r16, er16, hf⟩ := hf
    refine zw_callV (n := 1) (ci := 10) (q := zc_cl[10]) (As := [.int ((-5))]) (rest := []) S hK hw (zt_X10_no l g h q (-5) _ er16) zm_1219 zm_1221 zm_24 zq_X10_no zm_79 (by decide +kernel) ⟨Nat.le_of_ble_eq_true rfl, Nat.le_of_ble_eq_true rfl⟩ rfl rfl rfl (zi_X10_no er16) hl.1 rfl (by simp [zv_cat, zv_ci, zv_cj]) zd_X10_drift_10 ⟨(Nat.le_refl 0), (Nat.le_refl 0)⟩ (fun H locs hw => ?_)
    replace hw : zc_W g r16.1 H locs := hw
    have hres := Option.some.inj hf; subst hres
    exact zw_iret (v := r16.2) (ty := .int) hx hb hr hlk rfl hw zd_X10_drift_13 (Nat.le_refl 0) (Nat.le_refl 0)
def zf_X10_seed (h : zc_H) (q : Nat) (x1 : Int32) : Option (zc_H × Int32) :=
  if ¬ zf_is h q 10 = true then none else
  (zf_gi h q 10 8).bind fun v1 =>
  (zf_p h q 10 8 (.int (x1))).bind fun h3 =>
  some (h3, v1)
abbrev zr_X10_seed : Room := { frames := 0, cells := 0, slots := 0, locals := 0 }
theorem zi_X10_seed {h : zc_H} {q : Nat} {x1 : Int32} {res : zc_H × Int32} (hf : zf_X10_seed h q x1 = some res) : zf_is h q 10 = true := Decidable.not_not.mp (zo_n hf).1
set_option maxHeartbeats 4000000 in
set_option maxRecDepth 20000 in
theorem zt_X10_seed (l : Launch) (g : zc_G) (h : zc_H) (q : Nat) (x1 : Int32) (res : zc_H × Int32) (hf : zf_X10_seed h q x1 = some res) : zc_M l g yX10_seed cX10_seed 3 (some .int) zr_X10_seed h [va_rf ((some q)), .int (x1)] res.1 (some (.int (res.2))) := by
  refine zc_M.of (by decide) (by simp [lg_sl, zv_cat, zv_ci, zv_cj]) ?_
  intro p e s m below meth c ls S hK hw hr hlk hnm hl
  replace S : CallFix p m c cX10_seed 3 s [va_rf ((some q)), .int (x1)].toArray (zc_ws yX10_seed cX10_seed 3 (some .int)) RX10 := S
  have hx := S.1
  have hb := S.2.1
  replace hl : lv_has ls 3 [(0, va_rf ((some q))), (1, .int (x1))] := by simpa [lv_args, zv_cat, zv_ci, zv_cj] using hl
  generalize s.heap = H at hw ⊢
  obtain ⟨locs, hlocs⟩ : ∃ L : List Loc, L = [] := ⟨_, rfl⟩
  rw [← hlocs] at hw ⊢
  unfold zf_X10_seed at hf
  obtain ⟨-, hf⟩ := zo_n hf
  refine zl_aload_n hx hb zd_X10_seed_0 rfl (lv_at hl 0 rfl) ?_
  replace hf := zo_b hf; obtain ⟨v1, ev1, hf⟩ := hf
  obtain ⟨u2, u2e, u2v⟩ := zo_b ev1
  obtain rfl := zv_i_e u2v
  refine zw_get S hK hw zk_10 (k := 8) (by decide) rfl zm_1096 (Or.inl rfl) u2e zd_X10_seed_1 ?_
  refine lv_istore_n (i := 2) (lv' := [(2, .int (v1)), (0, va_rf ((some q))), (1, .int (x1))]) hx hb zd_X10_seed_4 rfl hl (by decide) rfl (fun ls hl => ?_)
  refine zl_aload_n hx hb zd_X10_seed_5 rfl (lv_at hl 1 rfl) ?_
  refine lv_iload_n hx hb zd_X10_seed_6 rfl (lv_at hl 2 rfl) ?_
  replace hf := zo_b hf; obtain ⟨h3, eh3, hf⟩ := hf
  refine zw_put S hK hw zk_10 (k := 8) (by decide) rfl zm_1096 (Or.inl rfl) eh3 (ty := .int) (by decide +kernel) rfl rfl zd_X10_seed_7 (fun H locs hw => ?_)
  refine lv_iload_n hx hb zd_X10_seed_10 rfl (lv_at hl 0 rfl) ?_
  have hres := Option.some.inj hf; subst hres
  exact zw_iret (v := v1) (ty := .int) hx hb hr hlk rfl hw zd_X10_seed_11 (Nat.le_refl 0) (Nat.le_refl 0)
def zf_X10_ran (h : zc_H) (q : Nat) (x1 : Int32) : Option (zc_H) :=
  if ¬ zf_is h q 10 = true then none else
  (zf_gi h q 10 13).bind fun v1 =>
  let k19 := fun (h19j : zc_H) =>
    (zf_gi h19j q 10 13).bind fun v4 =>
    (zf_p h19j q 10 13 (.int ((v4 + 1)))).bind fun h6 =>
    some h6
  if 20 ≤ v1 then
    k19 h
  else
  (zf_gr h q 10 14).bind fun v7 =>
  (zf_gi h q 10 13).bind fun v9 =>
  v7.bind fun a11 =>
  (zf_si h a11 0 v9 x1).bind fun h12 =>
  k19 h12
abbrev zr_X10_ran : Room := { frames := 0, cells := 0, slots := 0, locals := 0 }
theorem zi_X10_ran {h : zc_H} {q : Nat} {x1 : Int32} {res : zc_H} (hf : zf_X10_ran h q x1 = some res) : zf_is h q 10 = true := Decidable.not_not.mp (zo_n hf).1
set_option maxHeartbeats 4000000 in
set_option maxRecDepth 20000 in
theorem zt_X10_ran (l : Launch) (g : zc_G) (h : zc_H) (q : Nat) (x1 : Int32) (res : zc_H) (hf : zf_X10_ran h q x1 = some res) : zc_M l g yX10_ran cX10_ran 2 none zr_X10_ran h [va_rf ((some q)), .int (x1)] res none := by
  refine zc_M.of (by decide) (by simp [lg_sl, zv_cat, zv_ci, zv_cj]) ?_
  intro p e s m below meth c ls S hK hw hr hlk hnm hl
  replace S : CallFix p m c cX10_ran 2 s [va_rf ((some q)), .int (x1)].toArray (zc_ws yX10_ran cX10_ran 2 none) RX10 := S
  have hx := S.1
  have hb := S.2.1
  replace hl : lv_has ls 2 [(0, va_rf ((some q))), (1, .int (x1))] := by simpa [lv_args, zv_cat, zv_ci, zv_cj] using hl
  generalize s.heap = H at hw ⊢
  obtain ⟨locs, hlocs⟩ : ∃ L : List Loc, L = [] := ⟨_, rfl⟩
  rw [← hlocs] at hw ⊢
  unfold zf_X10_ran at hf
  obtain ⟨-, hf⟩ := zo_n hf
  refine zl_aload_n hx hb zd_X10_ran_0 rfl (lv_at hl 0 rfl) ?_
  replace hf := zo_b hf; obtain ⟨v1, ev1, hf⟩ := hf
  obtain ⟨u2, u2e, u2v⟩ := zo_b ev1
  obtain rfl := zv_i_e u2v
  refine zw_get S hK hw zk_10 (k := 13) (by decide) rfl zm_1101 (Or.inl rfl) u2e zd_X10_ran_1 ?_
  refine lv_bipush (v := 20) hx hb zd_X10_ran_4 (by decide) ?_
  have k19h : ∀ (h19j : zc_H) (H : Heap) (locs : List Loc) (ls : Array Slot), (
      (zf_gi h19j q 10 13).bind fun v4 =>
      (zf_p h19j q 10 13 (.int ((v4 + 1)))).bind fun h6 =>
      some h6
      ) = some res → zc_W g h19j H locs → lv_has ls 2 [(0, va_rf ((some q)))] → W p l e zr_X10_ran s m [va_rf ((some q)), .int (x1)].toArray below meth c H locs 0 0 (zc_Q g below zr_X10_ran none res [va_rf ((some q)), .int (x1)] s) (F0 m 19 ls []) := by
    intro h19j H locs ls hf hw hl
    refine zl_aload_n hx hb zd_X10_ran_19 rfl (lv_at hl 0 rfl) ?_
    refine lv_dup hx hb zd_X10_ran_20 rfl ?_
    replace hf := zo_b hf; obtain ⟨v4, ev4, hf⟩ := hf
    obtain ⟨u5, u5e, u5v⟩ := zo_b ev4
    obtain rfl := zv_i_e u5v
    refine zw_get S hK hw zk_10 (k := 13) (by decide) rfl zm_1101 (Or.inl rfl) u5e zd_X10_ran_21 ?_
    refine lv_iconst (v := 1) hx hb zd_X10_ran_24 (by decide) ?_
    refine lv_iadd hx hb zd_X10_ran_25 ?_
    replace hf := zo_b hf; obtain ⟨h6, eh6, hf⟩ := hf
    refine zw_put S hK hw zk_10 (k := 13) (by decide) rfl zm_1101 (Or.inl rfl) eh6 (ty := .int) (by decide +kernel) rfl rfl zd_X10_ran_26 (fun H locs hw => ?_)
    have hres := Option.some.inj hf; subst hres
    exact zw_vret hx hb hr hlk hw zd_X10_ran_29 (Nat.le_refl 0) (Nat.le_refl 0)
  refine lv_icmp_ge (tgt := 19) hx hb zd_X10_ran_6 (by decide) (fun c3 => ?_) (fun c3 => ?_)
  · replace hf := zo_t c3 hf
    exact k19h h _ _ _ hf hw (lv_sub hl [0] rfl)
  · replace hf := zo_f c3 hf
    refine zl_aload_n hx hb zd_X10_ran_9 rfl (lv_at hl 0 rfl) ?_
    replace hf := zo_b hf; obtain ⟨v7, ev7, hf⟩ := hf
    obtain ⟨u8, u8e, u8v⟩ := zo_b ev7
    obtain rfl := zv_r_e u8v
    refine zw_get S hK hw zk_10 (k := 14) (by decide) rfl zm_1102 (Or.inl rfl) u8e zd_X10_ran_10 ?_
    refine zl_aload_n hx hb zd_X10_ran_13 rfl (lv_at hl 0 rfl) ?_
    replace hf := zo_b hf; obtain ⟨v9, ev9, hf⟩ := hf
    obtain ⟨u10, u10e, u10v⟩ := zo_b ev9
    obtain rfl := zv_i_e u10v
    refine zw_get S hK hw zk_10 (k := 13) (by decide) rfl zm_1101 (Or.inl rfl) u10e zd_X10_ran_14 ?_
    refine lv_iload_n hx hb zd_X10_ran_17 rfl (lv_at hl 1 rfl) ?_
    replace hf := zo_b hf; obtain ⟨a11, na11, hf⟩ := hf
    refine W.eq (g2 := F0 m 18 ls [.int (x1), .int (v9), va_rf ((some a11))]) (by rw [na11] <;> rfl) ?_
    replace hf := zo_b hf; obtain ⟨h12, eh12, hf⟩ := hf
    refine zw_iast S hK hw eh12 zd_X10_ran_18 (fun H locs hw => ?_)
    exact k19h h12 _ _ _ hf hw (lv_sub hl [0] rfl)
def zf_X10_points : Nat → zc_H → Nat → Int32 → Int32 → Int32 → Option (zc_H × Int32)
  | 0, _, _, _, _, _ => none
  | d + 1, h, q, x1, x2, x3 =>
    if ¬ zf_is h q 10 = true then none else
    if x2 = 0 then
      (zf_X10_ran h q 10).bind fun r2 =>
      some (r2, (x3 + x1))
    else
    if x2 = 1 then
      (zf_X10_ran h q 20).bind fun r4 =>
      (zf_X10_points d r4 q x1 0 x3).bind fun r5 =>
      (zf_X10_of r5.1 q 1 x1).bind fun r6 =>
      some (r5.1, (r5.2 + r6))
    else
    if x2 = 2 then
      (zf_X10_above h x2).bind fun r8 =>
      (zf_X10_points d h q x1 r8 x3).bind fun r9 =>
      some (r9.1, r9.2)
    else
    if x2 = 3 then
      (zf_X10_ran h q 40).bind fun r11 =>
      (zf_X10_points d r11 q x1 1 (x3 + 1)).bind fun r12 =>
      some (r12.1, r12.2)
    else
    if x2 = 4 then
      (zf_X10_ran h q 51).bind fun r14 =>
      (zf_X10_points d r14 q x1 0 x3).bind fun r15 =>
      some (r15.1, (r15.2 - x1))
    else
    if x2 = 5 then
      (zf_X10_above h x2).bind fun r17 =>
      (zf_X10_points d h q x1 r17 x3).bind fun r18 =>
      some (r18.1, r18.2)
    else
    if x2 = 6 then
      (zf_X10_ran h q 70).bind fun r20 =>
      (zf_X10_points d r20 q x1 3 x3).bind fun r21 =>
      some (r21.1, (r21.2 * 2))
    else
    (zf_X10_above h x2).bind fun r22 =>
    (zf_X10_points d h q x1 r22 x3).bind fun r23 =>
    some (r23.1, r23.2)
def zr_X10_points (d : Nat) : Room := { frames := d + 1, cells := 0, slots := 0, locals := d * 23 + 22 }
theorem zi_X10_points {d : Nat} {h : zc_H} {q : Nat} {x1 : Int32} {x2 : Int32} {x3 : Int32} {res : zc_H × Int32} (hf : zf_X10_points d h q x1 x2 x3 = some res) : zf_is h q 10 = true := by
  cases d with
  | zero => cases hf
  | succ d => exact Decidable.not_not.mp (zo_n hf).1
set_option maxHeartbeats 4000000 in
set_option maxRecDepth 20000 in
theorem zt_X10_points (l : Launch) (g : zc_G) : ∀ (d : Nat) (h : zc_H) (q : Nat) (x1 : Int32) (x2 : Int32) (x3 : Int32) (res : zc_H × Int32) (hf : zf_X10_points d h q x1 x2 x3 = some res), zc_M l g yX10_points cX10_points 4 (some .int) (zr_X10_points d) h [va_rf ((some q)), .int (x1), .int (x2), .int (x3)] res.1 (some (.int (res.2))) := by
  intro d
  induction d with
  | zero => intro h q x1 x2 x3 res hf; cases hf
  | succ d ihd =>
  intro h q x1 x2 x3 res hf
  refine zc_M.of (by decide) (by simp [lg_sl, zv_cat, zv_ci, zv_cj]) ?_
  intro p e s m below meth c ls S hK hw hr hlk hnm hl
  replace S : CallFix p m c cX10_points 4 s [va_rf ((some q)), .int (x1), .int (x2), .int (x3)].toArray (zc_ws yX10_points cX10_points 4 (some .int)) RX10 := S
  have hx := S.1
  have hb := S.2.1
  replace hl : lv_has ls 4 [(0, va_rf ((some q))), (1, .int (x1)), (2, .int (x2)), (3, .int (x3))] := by simpa [lv_args, zv_cat, zv_ci, zv_cj] using hl
  generalize s.heap = H at hw ⊢
  obtain ⟨locs, hlocs⟩ : ∃ L : List Loc, L = [] := ⟨_, rfl⟩
  rw [← hlocs] at hw ⊢
  unfold zf_X10_points at hf
  obtain ⟨-, hf⟩ := zo_n hf
  refine lv_iload_n hx hb zd_X10_points_0 rfl (lv_at hl 2 rfl) ?_
  by_cases c1 : x2 = 0
  · replace hf := zo_t c1 hf
    refine W.eq (g2 := F0 m 1 ls (.int 0 :: [])) (by rw [c1] <;> rfl) ?_
    refine lv_tableIn (off := 43) (tgt := 44) hx hb zd_X10_points_1 (by decide) (by decide) (by decide) (by decide) ?_
    refine zl_aload_n hx hb zd_X10_points_44 rfl (lv_at hl 0 rfl) ?_
    refine lv_bipush (v := 10) hx hb zd_X10_points_45 (by decide) ?_
    replace hf := zo_b hf; obtain ⟨r2, er2, hf⟩ := hf
    refine zw_callV (n := 1) (ci := 10) (q := zc_cl[10]) (As := [.int (10)]) (rest := []) S hK hw (zt_X10_ran l g h q 10 _ er2) zm_1506 zm_1508 zm_62 zq_X10_ran zm_79 (by decide +kernel) ⟨by simp only [zr_X10_points, zr_X10_ran]; omega, by simp only [zr_X10_points, zr_X10_ran]; omega⟩ rfl rfl rfl (zi_X10_ran er2) hl.1 rfl (by simp [zv_cat, zv_ci, zv_cj]) zd_X10_points_47 ⟨(Nat.le_refl 0), (Nat.le_refl 0)⟩ (fun H locs hw => ?_)
    replace hw : zc_W g r2 H locs := hw
    refine lv_iload_n hx hb zd_X10_points_50 rfl (lv_at hl 3 rfl) ?_
    refine lv_iload_n hx hb zd_X10_points_51 rfl (lv_at hl 1 rfl) ?_
    refine lv_iadd hx hb zd_X10_points_52 ?_
    have hres := Option.some.inj hf; subst hres
    exact zw_iret (v := (x3 + x1)) (ty := .int) hx hb hr hlk rfl hw zd_X10_points_53 (Nat.le_refl 0) (Nat.le_refl 0)
  replace hf := zo_f c1 hf
  by_cases c3 : x2 = 1
  · replace hf := zo_t c3 hf
    refine W.eq (g2 := F0 m 1 ls (.int 1 :: [])) (by rw [c3] <;> rfl) ?_
    refine lv_tableIn (off := 53) (tgt := 54) hx hb zd_X10_points_1 (by decide) (by decide) (by decide) (by decide) ?_
    refine zl_aload_n hx hb zd_X10_points_54 rfl (lv_at hl 0 rfl) ?_
    refine lv_bipush (v := 20) hx hb zd_X10_points_55 (by decide) ?_
    replace hf := zo_b hf; obtain ⟨r4, er4, hf⟩ := hf
    refine zw_callV (n := 1) (ci := 10) (q := zc_cl[10]) (As := [.int (20)]) (rest := []) S hK hw (zt_X10_ran l g h q 20 _ er4) zm_1506 zm_1508 zm_62 zq_X10_ran zm_79 (by decide +kernel) ⟨by simp only [zr_X10_points, zr_X10_ran]; omega, by simp only [zr_X10_points, zr_X10_ran]; omega⟩ rfl rfl rfl (zi_X10_ran er4) hl.1 rfl (by simp [zv_cat, zv_ci, zv_cj]) zd_X10_points_57 ⟨(Nat.le_refl 0), (Nat.le_refl 0)⟩ (fun H locs hw => ?_)
    replace hw : zc_W g r4 H locs := hw
    refine zl_aload_n hx hb zd_X10_points_60 rfl (lv_at hl 0 rfl) ?_
    refine lv_iload_n hx hb zd_X10_points_61 rfl (lv_at hl 1 rfl) ?_
    refine lv_iconst (v := 0) hx hb zd_X10_points_62 (by decide) ?_
    refine lv_iload_n hx hb zd_X10_points_63 rfl (lv_at hl 3 rfl) ?_
    replace hf := zo_b hf; obtain ⟨r5, er5, hf⟩ := hf
    refine zw_callV (n := 3) (ci := 10) (q := zc_cl[10]) (As := [.int (x1), .int (0), .int (x3)]) (rest := []) S hK hw (ihd r4 q x1 0 x3 _ er5) zm_1502 zm_1504 zm_61 zq_X10_points zm_79 (by decide +kernel) ⟨by simp only [zr_X10_points]; omega, by simp only [zr_X10_points]; omega⟩ rfl rfl rfl (zi_X10_points er5) hl.1 rfl (by simp [zv_cat, zv_ci, zv_cj]) zd_X10_points_64 ⟨(Nat.le_refl 0), (Nat.le_refl 0)⟩ (fun H locs hw => ?_)
    replace hw : zc_W g r5.1 H locs := hw
    refine zl_aload_n hx hb zd_X10_points_67 rfl (lv_at hl 0 rfl) ?_
    refine lv_iconst (v := 1) hx hb zd_X10_points_68 (by decide) ?_
    refine lv_iload_n hx hb zd_X10_points_69 rfl (lv_at hl 1 rfl) ?_
    replace hf := zo_b hf; obtain ⟨r6, er6, hf⟩ := hf
    refine zw_callV (n := 2) (ci := 10) (q := zc_cl[10]) (As := [.int (1), .int (x1)]) (rest := [.int (r5.2)]) S hK hw (zt_X10_of l g r5.1 q 1 x1 _ er6) zm_1259 zm_1261 zm_28 zq_X10_of zm_79 (by decide +kernel) ⟨by simp only [zr_X10_points, zr_X10_of]; omega, by simp only [zr_X10_points, zr_X10_of]; omega⟩ rfl rfl rfl (zi_X10_of er6) hl.1 rfl (by simp [zv_cat, zv_ci, zv_cj]) zd_X10_points_70 ⟨(Nat.le_refl 0), (Nat.le_refl 0)⟩ (fun H locs hw => ?_)
    replace hw : zc_W g r5.1 H locs := hw
    refine lv_iadd hx hb zd_X10_points_73 ?_
    have hres := Option.some.inj hf; subst hres
    exact zw_iret (v := (r5.2 + r6)) (ty := .int) hx hb hr hlk rfl hw zd_X10_points_74 (Nat.le_refl 0) (Nat.le_refl 0)
  replace hf := zo_f c3 hf
  by_cases c7 : x2 = 2
  · replace hf := zo_t c7 hf
    refine W.eq (g2 := F0 m 1 ls (.int 2 :: [])) (by rw [c7] <;> rfl) ?_
    refine lv_tableIn (off := 122) (tgt := 123) hx hb zd_X10_points_1 (by decide) (by decide) (by decide) (by decide) ?_
    refine zl_aload_n hx hb zd_X10_points_123 rfl (lv_at hl 0 rfl) ?_
    refine lv_iload_n hx hb zd_X10_points_124 rfl (lv_at hl 1 rfl) ?_
    refine lv_iload_n hx hb zd_X10_points_125 rfl (lv_at hl 2 rfl) ?_
    replace hf := zo_b hf; obtain ⟨r8, er8, hf⟩ := hf
    refine zw_callS (n := 1) (As := [.int (x2)]) (rest := [.int (x1), va_rf ((some q))]) S hK hw (zt_X10_above l g h x2 _ er8) zm_1266 zm_1267 zq_X10_above zm_79 (by decide +kernel) ⟨by simp only [zr_X10_points, zr_X10_above]; omega, by simp only [zr_X10_points, zr_X10_above]; omega⟩ rfl hl.1 rfl (by simp [zv_cat, zv_ci, zv_cj]) zd_X10_points_126 ⟨(Nat.le_refl 0), (Nat.le_refl 0)⟩ (fun H locs hw => ?_)
    replace hw : zc_W g h H locs := hw
    refine lv_iload_n hx hb zd_X10_points_129 rfl (lv_at hl 3 rfl) ?_
    replace hf := zo_b hf; obtain ⟨r9, er9, hf⟩ := hf
    refine zw_callV (n := 3) (ci := 10) (q := zc_cl[10]) (As := [.int (x1), .int (r8), .int (x3)]) (rest := []) S hK hw (ihd h q x1 r8 x3 _ er9) zm_1502 zm_1504 zm_61 zq_X10_points zm_79 (by decide +kernel) ⟨by simp only [zr_X10_points]; omega, by simp only [zr_X10_points]; omega⟩ rfl rfl rfl (zi_X10_points er9) hl.1 rfl (by simp [zv_cat, zv_ci, zv_cj]) zd_X10_points_130 ⟨(Nat.le_refl 0), (Nat.le_refl 0)⟩ (fun H locs hw => ?_)
    replace hw : zc_W g r9.1 H locs := hw
    have hres := Option.some.inj hf; subst hres
    exact zw_iret (v := r9.2) (ty := .int) hx hb hr hlk rfl hw zd_X10_points_133 (Nat.le_refl 0) (Nat.le_refl 0)
  replace hf := zo_f c7 hf
  by_cases c10 : x2 = 3
  · replace hf := zo_t c10 hf
    refine W.eq (g2 := F0 m 1 ls (.int 3 :: [])) (by rw [c10] <;> rfl) ?_
    refine lv_tableIn (off := 74) (tgt := 75) hx hb zd_X10_points_1 (by decide) (by decide) (by decide) (by decide) ?_
    refine zl_aload_n hx hb zd_X10_points_75 rfl (lv_at hl 0 rfl) ?_
    refine lv_bipush (v := 40) hx hb zd_X10_points_76 (by decide) ?_
    replace hf := zo_b hf; obtain ⟨r11, er11, hf⟩ := hf
    refine zw_callV (n := 1) (ci := 10) (q := zc_cl[10]) (As := [.int (40)]) (rest := []) S hK hw (zt_X10_ran l g h q 40 _ er11) zm_1506 zm_1508 zm_62 zq_X10_ran zm_79 (by decide +kernel) ⟨by simp only [zr_X10_points, zr_X10_ran]; omega, by simp only [zr_X10_points, zr_X10_ran]; omega⟩ rfl rfl rfl (zi_X10_ran er11) hl.1 rfl (by simp [zv_cat, zv_ci, zv_cj]) zd_X10_points_78 ⟨(Nat.le_refl 0), (Nat.le_refl 0)⟩ (fun H locs hw => ?_)
    replace hw : zc_W g r11 H locs := hw
    refine zl_aload_n hx hb zd_X10_points_81 rfl (lv_at hl 0 rfl) ?_
    refine lv_iload_n hx hb zd_X10_points_82 rfl (lv_at hl 1 rfl) ?_
    refine lv_iconst (v := 1) hx hb zd_X10_points_83 (by decide) ?_
    refine lv_iload_n hx hb zd_X10_points_84 rfl (lv_at hl 3 rfl) ?_
    refine lv_iconst (v := 1) hx hb zd_X10_points_85 (by decide) ?_
    refine lv_iadd hx hb zd_X10_points_86 ?_
    replace hf := zo_b hf; obtain ⟨r12, er12, hf⟩ := hf
    refine zw_callV (n := 3) (ci := 10) (q := zc_cl[10]) (As := [.int (x1), .int (1), .int ((x3 + 1))]) (rest := []) S hK hw (ihd r11 q x1 1 (x3 + 1) _ er12) zm_1502 zm_1504 zm_61 zq_X10_points zm_79 (by decide +kernel) ⟨by simp only [zr_X10_points]; omega, by simp only [zr_X10_points]; omega⟩ rfl rfl rfl (zi_X10_points er12) hl.1 rfl (by simp [zv_cat, zv_ci, zv_cj]) zd_X10_points_87 ⟨(Nat.le_refl 0), (Nat.le_refl 0)⟩ (fun H locs hw => ?_)
    replace hw : zc_W g r12.1 H locs := hw
    have hres := Option.some.inj hf; subst hres
    exact zw_iret (v := r12.2) (ty := .int) hx hb hr hlk rfl hw zd_X10_points_90 (Nat.le_refl 0) (Nat.le_refl 0)
  replace hf := zo_f c10 hf
  by_cases c13 : x2 = 4
  · replace hf := zo_t c13 hf
    refine W.eq (g2 := F0 m 1 ls (.int 4 :: [])) (by rw [c13] <;> rfl) ?_
    refine lv_tableIn (off := 90) (tgt := 91) hx hb zd_X10_points_1 (by decide) (by decide) (by decide) (by decide) ?_
    refine zl_aload_n hx hb zd_X10_points_91 rfl (lv_at hl 0 rfl) ?_
    refine lv_bipush (v := 51) hx hb zd_X10_points_92 (by decide) ?_
    replace hf := zo_b hf; obtain ⟨r14, er14, hf⟩ := hf
    refine zw_callV (n := 1) (ci := 10) (q := zc_cl[10]) (As := [.int (51)]) (rest := []) S hK hw (zt_X10_ran l g h q 51 _ er14) zm_1506 zm_1508 zm_62 zq_X10_ran zm_79 (by decide +kernel) ⟨by simp only [zr_X10_points, zr_X10_ran]; omega, by simp only [zr_X10_points, zr_X10_ran]; omega⟩ rfl rfl rfl (zi_X10_ran er14) hl.1 rfl (by simp [zv_cat, zv_ci, zv_cj]) zd_X10_points_94 ⟨(Nat.le_refl 0), (Nat.le_refl 0)⟩ (fun H locs hw => ?_)
    replace hw : zc_W g r14 H locs := hw
    refine zl_aload_n hx hb zd_X10_points_97 rfl (lv_at hl 0 rfl) ?_
    refine lv_iload_n hx hb zd_X10_points_98 rfl (lv_at hl 1 rfl) ?_
    refine lv_iconst (v := 0) hx hb zd_X10_points_99 (by decide) ?_
    refine lv_iload_n hx hb zd_X10_points_100 rfl (lv_at hl 3 rfl) ?_
    replace hf := zo_b hf; obtain ⟨r15, er15, hf⟩ := hf
    refine zw_callV (n := 3) (ci := 10) (q := zc_cl[10]) (As := [.int (x1), .int (0), .int (x3)]) (rest := []) S hK hw (ihd r14 q x1 0 x3 _ er15) zm_1502 zm_1504 zm_61 zq_X10_points zm_79 (by decide +kernel) ⟨by simp only [zr_X10_points]; omega, by simp only [zr_X10_points]; omega⟩ rfl rfl rfl (zi_X10_points er15) hl.1 rfl (by simp [zv_cat, zv_ci, zv_cj]) zd_X10_points_101 ⟨(Nat.le_refl 0), (Nat.le_refl 0)⟩ (fun H locs hw => ?_)
    replace hw : zc_W g r15.1 H locs := hw
    refine lv_iload_n hx hb zd_X10_points_104 rfl (lv_at hl 1 rfl) ?_
    refine lv_isub hx hb zd_X10_points_105 ?_
    have hres := Option.some.inj hf; subst hres
    exact zw_iret (v := (r15.2 - x1)) (ty := .int) hx hb hr hlk rfl hw zd_X10_points_106 (Nat.le_refl 0) (Nat.le_refl 0)
  replace hf := zo_f c13 hf
  by_cases c16 : x2 = 5
  · replace hf := zo_t c16 hf
    refine W.eq (g2 := F0 m 1 ls (.int 5 :: [])) (by rw [c16] <;> rfl) ?_
    refine lv_tableIn (off := 122) (tgt := 123) hx hb zd_X10_points_1 (by decide) (by decide) (by decide) (by decide) ?_
    refine zl_aload_n hx hb zd_X10_points_123 rfl (lv_at hl 0 rfl) ?_
    refine lv_iload_n hx hb zd_X10_points_124 rfl (lv_at hl 1 rfl) ?_
    refine lv_iload_n hx hb zd_X10_points_125 rfl (lv_at hl 2 rfl) ?_
    replace hf := zo_b hf; obtain ⟨r17, er17, hf⟩ := hf
    refine zw_callS (n := 1) (As := [.int (x2)]) (rest := [.int (x1), va_rf ((some q))]) S hK hw (zt_X10_above l g h x2 _ er17) zm_1266 zm_1267 zq_X10_above zm_79 (by decide +kernel) ⟨by simp only [zr_X10_points, zr_X10_above]; omega, by simp only [zr_X10_points, zr_X10_above]; omega⟩ rfl hl.1 rfl (by simp [zv_cat, zv_ci, zv_cj]) zd_X10_points_126 ⟨(Nat.le_refl 0), (Nat.le_refl 0)⟩ (fun H locs hw => ?_)
    replace hw : zc_W g h H locs := hw
    refine lv_iload_n hx hb zd_X10_points_129 rfl (lv_at hl 3 rfl) ?_
    replace hf := zo_b hf; obtain ⟨r18, er18, hf⟩ := hf
    refine zw_callV (n := 3) (ci := 10) (q := zc_cl[10]) (As := [.int (x1), .int (r17), .int (x3)]) (rest := []) S hK hw (ihd h q x1 r17 x3 _ er18) zm_1502 zm_1504 zm_61 zq_X10_points zm_79 (by decide +kernel) ⟨by simp only [zr_X10_points]; omega, by simp only [zr_X10_points]; omega⟩ rfl rfl rfl (zi_X10_points er18) hl.1 rfl (by simp [zv_cat, zv_ci, zv_cj]) zd_X10_points_130 ⟨(Nat.le_refl 0), (Nat.le_refl 0)⟩ (fun H locs hw => ?_)
    replace hw : zc_W g r18.1 H locs := hw
    have hres := Option.some.inj hf; subst hres
    exact zw_iret (v := r18.2) (ty := .int) hx hb hr hlk rfl hw zd_X10_points_133 (Nat.le_refl 0) (Nat.le_refl 0)
  replace hf := zo_f c16 hf
  by_cases c19 : x2 = 6
  · replace hf := zo_t c19 hf
    refine W.eq (g2 := F0 m 1 ls (.int 6 :: [])) (by rw [c19] <;> rfl) ?_
    refine lv_tableIn (off := 106) (tgt := 107) hx hb zd_X10_points_1 (by decide) (by decide) (by decide) (by decide) ?_
    refine zl_aload_n hx hb zd_X10_points_107 rfl (lv_at hl 0 rfl) ?_
    refine lv_bipush (v := 70) hx hb zd_X10_points_108 (by decide) ?_
    replace hf := zo_b hf; obtain ⟨r20, er20, hf⟩ := hf
    refine zw_callV (n := 1) (ci := 10) (q := zc_cl[10]) (As := [.int (70)]) (rest := []) S hK hw (zt_X10_ran l g h q 70 _ er20) zm_1506 zm_1508 zm_62 zq_X10_ran zm_79 (by decide +kernel) ⟨by simp only [zr_X10_points, zr_X10_ran]; omega, by simp only [zr_X10_points, zr_X10_ran]; omega⟩ rfl rfl rfl (zi_X10_ran er20) hl.1 rfl (by simp [zv_cat, zv_ci, zv_cj]) zd_X10_points_110 ⟨(Nat.le_refl 0), (Nat.le_refl 0)⟩ (fun H locs hw => ?_)
    replace hw : zc_W g r20 H locs := hw
    refine zl_aload_n hx hb zd_X10_points_113 rfl (lv_at hl 0 rfl) ?_
    refine lv_iload_n hx hb zd_X10_points_114 rfl (lv_at hl 1 rfl) ?_
    refine lv_iconst (v := 3) hx hb zd_X10_points_115 (by decide) ?_
    refine lv_iload_n hx hb zd_X10_points_116 rfl (lv_at hl 3 rfl) ?_
    replace hf := zo_b hf; obtain ⟨r21, er21, hf⟩ := hf
    refine zw_callV (n := 3) (ci := 10) (q := zc_cl[10]) (As := [.int (x1), .int (3), .int (x3)]) (rest := []) S hK hw (ihd r20 q x1 3 x3 _ er21) zm_1502 zm_1504 zm_61 zq_X10_points zm_79 (by decide +kernel) ⟨by simp only [zr_X10_points]; omega, by simp only [zr_X10_points]; omega⟩ rfl rfl rfl (zi_X10_points er21) hl.1 rfl (by simp [zv_cat, zv_ci, zv_cj]) zd_X10_points_117 ⟨(Nat.le_refl 0), (Nat.le_refl 0)⟩ (fun H locs hw => ?_)
    replace hw : zc_W g r21.1 H locs := hw
    refine lv_iconst (v := 2) hx hb zd_X10_points_120 (by decide) ?_
    refine lv_imul hx hb zd_X10_points_121 ?_
    have hres := Option.some.inj hf; subst hres
    exact zw_iret (v := (r21.2 * 2)) (ty := .int) hx hb hr hlk rfl hw zd_X10_points_122 (Nat.le_refl 0) (Nat.le_refl 0)
  replace hf := zo_f c19 hf
  have zc1 : (x2 : Int32).toInt ≠ 0 := fun h => c1 (Int32.toInt_inj.mp (h.trans (by decide)))
  have zc3 : (x2 : Int32).toInt ≠ 1 := fun h => c3 (Int32.toInt_inj.mp (h.trans (by decide)))
  have zc7 : (x2 : Int32).toInt ≠ 2 := fun h => c7 (Int32.toInt_inj.mp (h.trans (by decide)))
  have zc10 : (x2 : Int32).toInt ≠ 3 := fun h => c10 (Int32.toInt_inj.mp (h.trans (by decide)))
  have zc13 : (x2 : Int32).toInt ≠ 4 := fun h => c13 (Int32.toInt_inj.mp (h.trans (by decide)))
  have zc16 : (x2 : Int32).toInt ≠ 5 := fun h => c16 (Int32.toInt_inj.mp (h.trans (by decide)))
  have zc19 : (x2 : Int32).toInt ≠ 6 := fun h => c19 (Int32.toInt_inj.mp (h.trans (by decide)))
  refine lv_tableOut (tgt := 123) hx hb zd_X10_points_1 (by omega) (by decide) ?_
  refine zl_aload_n hx hb zd_X10_points_123 rfl (lv_at hl 0 rfl) ?_
  refine lv_iload_n hx hb zd_X10_points_124 rfl (lv_at hl 1 rfl) ?_
  refine lv_iload_n hx hb zd_X10_points_125 rfl (lv_at hl 2 rfl) ?_
  replace hf := zo_b hf; obtain ⟨r22, er22, hf⟩ := hf
  refine zw_callS (n := 1) (As := [.int (x2)]) (rest := [.int (x1), va_rf ((some q))]) S hK hw (zt_X10_above l g h x2 _ er22) zm_1266 zm_1267 zq_X10_above zm_79 (by decide +kernel) ⟨by simp only [zr_X10_points, zr_X10_above]; omega, by simp only [zr_X10_points, zr_X10_above]; omega⟩ rfl hl.1 rfl (by simp [zv_cat, zv_ci, zv_cj]) zd_X10_points_126 ⟨(Nat.le_refl 0), (Nat.le_refl 0)⟩ (fun H locs hw => ?_)
  replace hw : zc_W g h H locs := hw
  refine lv_iload_n hx hb zd_X10_points_129 rfl (lv_at hl 3 rfl) ?_
  replace hf := zo_b hf; obtain ⟨r23, er23, hf⟩ := hf
  refine zw_callV (n := 3) (ci := 10) (q := zc_cl[10]) (As := [.int (x1), .int (r22), .int (x3)]) (rest := []) S hK hw (ihd h q x1 r22 x3 _ er23) zm_1502 zm_1504 zm_61 zq_X10_points zm_79 (by decide +kernel) ⟨by simp only [zr_X10_points]; omega, by simp only [zr_X10_points]; omega⟩ rfl rfl rfl (zi_X10_points er23) hl.1 rfl (by simp [zv_cat, zv_ci, zv_cj]) zd_X10_points_130 ⟨(Nat.le_refl 0), (Nat.le_refl 0)⟩ (fun H locs hw => ?_)
  replace hw : zc_W g r23.1 H locs := hw
  have hres := Option.some.inj hf; subst hres
  exact zw_iret (v := r23.2) (ty := .int) hx hb hr hlk rfl hw zd_X10_points_133 (Nat.le_refl 0) (Nat.le_refl 0)
def zf_X10_weighs : Nat → zc_H → Nat → Int32 → Int32 → Int32 → Option (zc_H × Int32)
  | 0, _, _, _, _, _ => none
  | d + 1, h, q, x1, x2, x3 =>
    if ¬ zf_is h q 10 = true then none else
    if x2 = 0 then
      (zf_X10_ran h q 11).bind fun r2 =>
      (zf_X10_of r2 q 0 x1).bind fun r3 =>
      (zf_X10_points 20 r2 q x1 r3 x3).bind fun r4 =>
      some (r4.1, (r4.2 * 2))
    else
    if x2 = 2 then
      (zf_X10_ran h q 30).bind fun r6 =>
      (zf_X10_weighs d r6 q x1 0 x3).bind fun r7 =>
      some (r7.1, (r7.2 * 3))
    else
    if x2 = 6 then
      (zf_X10_ran h q 71).bind fun r9 =>
      (zf_X10_of r9 q 1 x1).bind fun r10 =>
      (zf_X10_weighs d r9 q x1 3 (x3 - r10)).bind fun r11 =>
      some (r11.1, r11.2)
    else
    (zf_X10_above h x2).bind fun r12 =>
    (zf_X10_weighs d h q x1 r12 x3).bind fun r13 =>
    some (r13.1, r13.2)
def zr_X10_weighs (d : Nat) : Room := { frames := d + 22, cells := 0, slots := 0, locals := d * 23 + 505 }
theorem zi_X10_weighs {d : Nat} {h : zc_H} {q : Nat} {x1 : Int32} {x2 : Int32} {x3 : Int32} {res : zc_H × Int32} (hf : zf_X10_weighs d h q x1 x2 x3 = some res) : zf_is h q 10 = true := by
  cases d with
  | zero => cases hf
  | succ d => exact Decidable.not_not.mp (zo_n hf).1
set_option maxHeartbeats 4000000 in
set_option maxRecDepth 20000 in
theorem zt_X10_weighs (l : Launch) (g : zc_G) : ∀ (d : Nat) (h : zc_H) (q : Nat) (x1 : Int32) (x2 : Int32) (x3 : Int32) (res : zc_H × Int32) (hf : zf_X10_weighs d h q x1 x2 x3 = some res), zc_M l g yX10_weighs cX10_weighs 4 (some .int) (zr_X10_weighs d) h [va_rf ((some q)), .int (x1), .int (x2), .int (x3)] res.1 (some (.int (res.2))) := by
  intro d
  induction d with
  | zero => intro h q x1 x2 x3 res hf; cases hf
  | succ d ihd =>
  intro h q x1 x2 x3 res hf
  refine zc_M.of (by decide) (by simp [lg_sl, zv_cat, zv_ci, zv_cj]) ?_
  intro p e s m below meth c ls S hK hw hr hlk hnm hl
  replace S : CallFix p m c cX10_weighs 4 s [va_rf ((some q)), .int (x1), .int (x2), .int (x3)].toArray (zc_ws yX10_weighs cX10_weighs 4 (some .int)) RX10 := S
  have hx := S.1
  have hb := S.2.1
  replace hl : lv_has ls 4 [(0, va_rf ((some q))), (1, .int (x1)), (2, .int (x2)), (3, .int (x3))] := by simpa [lv_args, zv_cat, zv_ci, zv_cj] using hl
  generalize s.heap = H at hw ⊢
  obtain ⟨locs, hlocs⟩ : ∃ L : List Loc, L = [] := ⟨_, rfl⟩
  rw [← hlocs] at hw ⊢
  unfold zf_X10_weighs at hf
  obtain ⟨-, hf⟩ := zo_n hf
  refine lv_iload_n hx hb zd_X10_weighs_0 rfl (lv_at hl 2 rfl) ?_
  by_cases c1 : x2 = 0
  · replace hf := zo_t c1 hf
    refine W.eq (g2 := F0 m 1 ls (.int 0 :: [])) (by rw [c1] <;> rfl) ?_
    refine lv_lookup (off := 35) (tgt := 36) hx hb zd_X10_weighs_1 (by decide) (by decide) (by decide) ?_
    refine zl_aload_n hx hb zd_X10_weighs_36 rfl (lv_at hl 0 rfl) ?_
    refine lv_bipush (v := 11) hx hb zd_X10_weighs_37 (by decide) ?_
    replace hf := zo_b hf; obtain ⟨r2, er2, hf⟩ := hf
    refine zw_callV (n := 1) (ci := 10) (q := zc_cl[10]) (As := [.int (11)]) (rest := []) S hK hw (zt_X10_ran l g h q 11 _ er2) zm_1506 zm_1508 zm_62 zq_X10_ran zm_79 (by decide +kernel) ⟨by simp only [zr_X10_weighs, zr_X10_ran]; omega, by simp only [zr_X10_weighs, zr_X10_ran]; omega⟩ rfl rfl rfl (zi_X10_ran er2) hl.1 rfl (by simp [zv_cat, zv_ci, zv_cj]) zd_X10_weighs_39 ⟨(Nat.le_refl 0), (Nat.le_refl 0)⟩ (fun H locs hw => ?_)
    replace hw : zc_W g r2 H locs := hw
    refine zl_aload_n hx hb zd_X10_weighs_42 rfl (lv_at hl 0 rfl) ?_
    refine lv_iload_n hx hb zd_X10_weighs_43 rfl (lv_at hl 1 rfl) ?_
    refine zl_aload_n hx hb zd_X10_weighs_44 rfl (lv_at hl 0 rfl) ?_
    refine lv_iconst (v := 0) hx hb zd_X10_weighs_45 (by decide) ?_
    refine lv_iload_n hx hb zd_X10_weighs_46 rfl (lv_at hl 1 rfl) ?_
    replace hf := zo_b hf; obtain ⟨r3, er3, hf⟩ := hf
    refine zw_callV (n := 2) (ci := 10) (q := zc_cl[10]) (As := [.int (0), .int (x1)]) (rest := [.int (x1), va_rf ((some q))]) S hK hw (zt_X10_of l g r2 q 0 x1 _ er3) zm_1259 zm_1261 zm_28 zq_X10_of zm_79 (by decide +kernel) ⟨by simp only [zr_X10_weighs, zr_X10_of]; omega, by simp only [zr_X10_weighs, zr_X10_of]; omega⟩ rfl rfl rfl (zi_X10_of er3) hl.1 rfl (by simp [zv_cat, zv_ci, zv_cj]) zd_X10_weighs_47 ⟨(Nat.le_refl 0), (Nat.le_refl 0)⟩ (fun H locs hw => ?_)
    replace hw : zc_W g r2 H locs := hw
    refine lv_iload_n hx hb zd_X10_weighs_50 rfl (lv_at hl 3 rfl) ?_
    replace hf := zo_b hf; obtain ⟨r4, er4, hf⟩ := hf
    refine zw_callV (n := 3) (ci := 10) (q := zc_cl[10]) (As := [.int (x1), .int (r3), .int (x3)]) (rest := []) S hK hw (zt_X10_points l g 20 r2 q x1 r3 x3 _ er4) zm_1502 zm_1504 zm_61 zq_X10_points zm_79 (by decide +kernel) ⟨by simp only [zr_X10_weighs, zr_X10_points]; omega, by simp only [zr_X10_weighs, zr_X10_points]; omega⟩ rfl rfl rfl (zi_X10_points er4) hl.1 rfl (by simp [zv_cat, zv_ci, zv_cj]) zd_X10_weighs_51 ⟨(Nat.le_refl 0), (Nat.le_refl 0)⟩ (fun H locs hw => ?_)
    replace hw : zc_W g r4.1 H locs := hw
    refine lv_iconst (v := 2) hx hb zd_X10_weighs_54 (by decide) ?_
    refine lv_imul hx hb zd_X10_weighs_55 ?_
    have hres := Option.some.inj hf; subst hres
    exact zw_iret (v := (r4.2 * 2)) (ty := .int) hx hb hr hlk rfl hw zd_X10_weighs_56 (Nat.le_refl 0) (Nat.le_refl 0)
  replace hf := zo_f c1 hf
  by_cases c5 : x2 = 2
  · replace hf := zo_t c5 hf
    refine W.eq (g2 := F0 m 1 ls (.int 2 :: [])) (by rw [c5] <;> rfl) ?_
    refine lv_lookup (off := 56) (tgt := 57) hx hb zd_X10_weighs_1 (by decide) (by decide) (by decide) ?_
    refine zl_aload_n hx hb zd_X10_weighs_57 rfl (lv_at hl 0 rfl) ?_
    refine lv_bipush (v := 30) hx hb zd_X10_weighs_58 (by decide) ?_
    replace hf := zo_b hf; obtain ⟨r6, er6, hf⟩ := hf
    refine zw_callV (n := 1) (ci := 10) (q := zc_cl[10]) (As := [.int (30)]) (rest := []) S hK hw (zt_X10_ran l g h q 30 _ er6) zm_1506 zm_1508 zm_62 zq_X10_ran zm_79 (by decide +kernel) ⟨by simp only [zr_X10_weighs, zr_X10_ran]; omega, by simp only [zr_X10_weighs, zr_X10_ran]; omega⟩ rfl rfl rfl (zi_X10_ran er6) hl.1 rfl (by simp [zv_cat, zv_ci, zv_cj]) zd_X10_weighs_60 ⟨(Nat.le_refl 0), (Nat.le_refl 0)⟩ (fun H locs hw => ?_)
    replace hw : zc_W g r6 H locs := hw
    refine zl_aload_n hx hb zd_X10_weighs_63 rfl (lv_at hl 0 rfl) ?_
    refine lv_iload_n hx hb zd_X10_weighs_64 rfl (lv_at hl 1 rfl) ?_
    refine lv_iconst (v := 0) hx hb zd_X10_weighs_65 (by decide) ?_
    refine lv_iload_n hx hb zd_X10_weighs_66 rfl (lv_at hl 3 rfl) ?_
    replace hf := zo_b hf; obtain ⟨r7, er7, hf⟩ := hf
    refine zw_callV (n := 3) (ci := 10) (q := zc_cl[10]) (As := [.int (x1), .int (0), .int (x3)]) (rest := []) S hK hw (ihd r6 q x1 0 x3 _ er7) zm_1510 zm_1512 zm_63 zq_X10_weighs zm_79 (by decide +kernel) ⟨by simp only [zr_X10_weighs]; omega, by simp only [zr_X10_weighs]; omega⟩ rfl rfl rfl (zi_X10_weighs er7) hl.1 rfl (by simp [zv_cat, zv_ci, zv_cj]) zd_X10_weighs_67 ⟨(Nat.le_refl 0), (Nat.le_refl 0)⟩ (fun H locs hw => ?_)
    replace hw : zc_W g r7.1 H locs := hw
    refine lv_iconst (v := 3) hx hb zd_X10_weighs_70 (by decide) ?_
    refine lv_imul hx hb zd_X10_weighs_71 ?_
    have hres := Option.some.inj hf; subst hres
    exact zw_iret (v := (r7.2 * 3)) (ty := .int) hx hb hr hlk rfl hw zd_X10_weighs_72 (Nat.le_refl 0) (Nat.le_refl 0)
  replace hf := zo_f c5 hf
  by_cases c8 : x2 = 6
  · replace hf := zo_t c8 hf
    refine W.eq (g2 := F0 m 1 ls (.int 6 :: [])) (by rw [c8] <;> rfl) ?_
    refine lv_lookup (off := 72) (tgt := 73) hx hb zd_X10_weighs_1 (by decide) (by decide) (by decide) ?_
    refine zl_aload_n hx hb zd_X10_weighs_73 rfl (lv_at hl 0 rfl) ?_
    refine lv_bipush (v := 71) hx hb zd_X10_weighs_74 (by decide) ?_
    replace hf := zo_b hf; obtain ⟨r9, er9, hf⟩ := hf
    refine zw_callV (n := 1) (ci := 10) (q := zc_cl[10]) (As := [.int (71)]) (rest := []) S hK hw (zt_X10_ran l g h q 71 _ er9) zm_1506 zm_1508 zm_62 zq_X10_ran zm_79 (by decide +kernel) ⟨by simp only [zr_X10_weighs, zr_X10_ran]; omega, by simp only [zr_X10_weighs, zr_X10_ran]; omega⟩ rfl rfl rfl (zi_X10_ran er9) hl.1 rfl (by simp [zv_cat, zv_ci, zv_cj]) zd_X10_weighs_76 ⟨(Nat.le_refl 0), (Nat.le_refl 0)⟩ (fun H locs hw => ?_)
    replace hw : zc_W g r9 H locs := hw
    refine zl_aload_n hx hb zd_X10_weighs_79 rfl (lv_at hl 0 rfl) ?_
    refine lv_iload_n hx hb zd_X10_weighs_80 rfl (lv_at hl 1 rfl) ?_
    refine lv_iconst (v := 3) hx hb zd_X10_weighs_81 (by decide) ?_
    refine lv_iload_n hx hb zd_X10_weighs_82 rfl (lv_at hl 3 rfl) ?_
    refine zl_aload_n hx hb zd_X10_weighs_83 rfl (lv_at hl 0 rfl) ?_
    refine lv_iconst (v := 1) hx hb zd_X10_weighs_84 (by decide) ?_
    refine lv_iload_n hx hb zd_X10_weighs_85 rfl (lv_at hl 1 rfl) ?_
    replace hf := zo_b hf; obtain ⟨r10, er10, hf⟩ := hf
    refine zw_callV (n := 2) (ci := 10) (q := zc_cl[10]) (As := [.int (1), .int (x1)]) (rest := [.int (x3), .int (3), .int (x1), va_rf ((some q))]) S hK hw (zt_X10_of l g r9 q 1 x1 _ er10) zm_1259 zm_1261 zm_28 zq_X10_of zm_79 (by decide +kernel) ⟨by simp only [zr_X10_weighs, zr_X10_of]; omega, by simp only [zr_X10_weighs, zr_X10_of]; omega⟩ rfl rfl rfl (zi_X10_of er10) hl.1 rfl (by simp [zv_cat, zv_ci, zv_cj]) zd_X10_weighs_86 ⟨(Nat.le_refl 0), (Nat.le_refl 0)⟩ (fun H locs hw => ?_)
    replace hw : zc_W g r9 H locs := hw
    refine lv_isub hx hb zd_X10_weighs_89 ?_
    replace hf := zo_b hf; obtain ⟨r11, er11, hf⟩ := hf
    refine zw_callV (n := 3) (ci := 10) (q := zc_cl[10]) (As := [.int (x1), .int (3), .int ((x3 - r10))]) (rest := []) S hK hw (ihd r9 q x1 3 (x3 - r10) _ er11) zm_1510 zm_1512 zm_63 zq_X10_weighs zm_79 (by decide +kernel) ⟨by simp only [zr_X10_weighs]; omega, by simp only [zr_X10_weighs]; omega⟩ rfl rfl rfl (zi_X10_weighs er11) hl.1 rfl (by simp [zv_cat, zv_ci, zv_cj]) zd_X10_weighs_90 ⟨(Nat.le_refl 0), (Nat.le_refl 0)⟩ (fun H locs hw => ?_)
    replace hw : zc_W g r11.1 H locs := hw
    have hres := Option.some.inj hf; subst hres
    exact zw_iret (v := r11.2) (ty := .int) hx hb hr hlk rfl hw zd_X10_weighs_93 (Nat.le_refl 0) (Nat.le_refl 0)
  replace hf := zo_f c8 hf
  have zc1 : (x2 : Int32).toInt ≠ 0 := fun h => c1 (Int32.toInt_inj.mp (h.trans (by decide)))
  have zc5 : (x2 : Int32).toInt ≠ 2 := fun h => c5 (Int32.toInt_inj.mp (h.trans (by decide)))
  have zc8 : (x2 : Int32).toInt ≠ 6 := fun h => c8 (Int32.toInt_inj.mp (h.trans (by decide)))
  refine lv_lookup (off := 93) (tgt := 94) hx hb zd_X10_weighs_1 (by decide) (by simp [Op.lookupswitch.offset, Ne.symm zc1, Ne.symm zc5, Ne.symm zc8]) (by decide) ?_
  refine zl_aload_n hx hb zd_X10_weighs_94 rfl (lv_at hl 0 rfl) ?_
  refine lv_iload_n hx hb zd_X10_weighs_95 rfl (lv_at hl 1 rfl) ?_
  refine lv_iload_n hx hb zd_X10_weighs_96 rfl (lv_at hl 2 rfl) ?_
  replace hf := zo_b hf; obtain ⟨r12, er12, hf⟩ := hf
  refine zw_callS (n := 1) (As := [.int (x2)]) (rest := [.int (x1), va_rf ((some q))]) S hK hw (zt_X10_above l g h x2 _ er12) zm_1266 zm_1267 zq_X10_above zm_79 (by decide +kernel) ⟨by simp only [zr_X10_weighs, zr_X10_above]; omega, by simp only [zr_X10_weighs, zr_X10_above]; omega⟩ rfl hl.1 rfl (by simp [zv_cat, zv_ci, zv_cj]) zd_X10_weighs_97 ⟨(Nat.le_refl 0), (Nat.le_refl 0)⟩ (fun H locs hw => ?_)
  replace hw : zc_W g h H locs := hw
  refine lv_iload_n hx hb zd_X10_weighs_100 rfl (lv_at hl 3 rfl) ?_
  replace hf := zo_b hf; obtain ⟨r13, er13, hf⟩ := hf
  refine zw_callV (n := 3) (ci := 10) (q := zc_cl[10]) (As := [.int (x1), .int (r12), .int (x3)]) (rest := []) S hK hw (ihd h q x1 r12 x3 _ er13) zm_1510 zm_1512 zm_63 zq_X10_weighs zm_79 (by decide +kernel) ⟨by simp only [zr_X10_weighs]; omega, by simp only [zr_X10_weighs]; omega⟩ rfl rfl rfl (zi_X10_weighs er13) hl.1 rfl (by simp [zv_cat, zv_ci, zv_cj]) zd_X10_weighs_101 ⟨(Nat.le_refl 0), (Nat.le_refl 0)⟩ (fun H locs hw => ?_)
  replace hw : zc_W g r13.1 H locs := hw
  have hres := Option.some.inj hf; subst hres
  exact zw_iret (v := r13.2) (ty := .int) hx hb hr hlk rfl hw zd_X10_weighs_104 (Nat.le_refl 0) (Nat.le_refl 0)
def zf_X10_clings : Nat → zc_H → Nat → Int32 → Int32 → Int32 → Option (zc_H × Int32)
  | 0, _, _, _, _, _ => none
  | d + 1, h, q, x1, x2, x3 =>
    if ¬ zf_is h q 10 = true then none else
    if x2 = 0 then
      (zf_X10_ran h q 12).bind fun r2 =>
      (zf_X10_of r2 q 0 x1).bind fun r3 =>
      (zf_X10_weighs 20 r2 q x1 r3 x3).bind fun r4 =>
      (zf_X10_of r4.1 q 0 x1).bind fun r5 =>
      (zf_X10_of r4.1 q 1 x1).bind fun r6 =>
      (zf_X10_points 20 r4.1 q x1 r5 (x3 - r6)).bind fun r7 =>
      some (r7.1, (r4.2 ^^^ r7.2))
    else
    if x2 = 4 then
      (zf_X10_ran h q 50).bind fun r9 =>
      (zf_X10_clings d r9 q x1 0 x3).bind fun r10 =>
      some (r10.1, (-r10.2))
    else
    if x2 = 5 then
      (zf_X10_ran h q 60).bind fun r12 =>
      (zf_X10_clings d r12 q x1 2 x3).bind fun r13 =>
      some (r13.1, (r13.2 ^^^ 5))
    else
    (zf_X10_above h x2).bind fun r14 =>
    (zf_X10_clings d h q x1 r14 x3).bind fun r15 =>
    some (r15.1, r15.2)
def zr_X10_clings (d : Nat) : Room := { frames := d + 43, cells := 0, slots := 0, locals := d * 24 + 988 }
theorem zi_X10_clings {d : Nat} {h : zc_H} {q : Nat} {x1 : Int32} {x2 : Int32} {x3 : Int32} {res : zc_H × Int32} (hf : zf_X10_clings d h q x1 x2 x3 = some res) : zf_is h q 10 = true := by
  cases d with
  | zero => cases hf
  | succ d => exact Decidable.not_not.mp (zo_n hf).1
set_option maxHeartbeats 4000000 in
set_option maxRecDepth 20000 in
theorem zt_X10_clings (l : Launch) (g : zc_G) : ∀ (d : Nat) (h : zc_H) (q : Nat) (x1 : Int32) (x2 : Int32) (x3 : Int32) (res : zc_H × Int32) (hf : zf_X10_clings d h q x1 x2 x3 = some res), zc_M l g yX10_clings cX10_clings 5 (some .int) (zr_X10_clings d) h [va_rf ((some q)), .int (x1), .int (x2), .int (x3)] res.1 (some (.int (res.2))) := by
  intro d
  induction d with
  | zero => intro h q x1 x2 x3 res hf; cases hf
  | succ d ihd =>
  intro h q x1 x2 x3 res hf
  refine zc_M.of (by decide) (by simp [lg_sl, zv_cat, zv_ci, zv_cj]) ?_
  intro p e s m below meth c ls S hK hw hr hlk hnm hl
  replace S : CallFix p m c cX10_clings 5 s [va_rf ((some q)), .int (x1), .int (x2), .int (x3)].toArray (zc_ws yX10_clings cX10_clings 5 (some .int)) RX10 := S
  have hx := S.1
  have hb := S.2.1
  replace hl : lv_has ls 5 [(0, va_rf ((some q))), (1, .int (x1)), (2, .int (x2)), (3, .int (x3))] := by simpa [lv_args, zv_cat, zv_ci, zv_cj] using hl
  generalize s.heap = H at hw ⊢
  obtain ⟨locs, hlocs⟩ : ∃ L : List Loc, L = [] := ⟨_, rfl⟩
  rw [← hlocs] at hw ⊢
  unfold zf_X10_clings at hf
  obtain ⟨-, hf⟩ := zo_n hf
  refine lv_iload_n hx hb zd_X10_clings_0 rfl (lv_at hl 2 rfl) ?_
  by_cases c1 : x2 = 0
  · replace hf := zo_t c1 hf
    refine W.eq (g2 := F0 m 1 ls (.int 0 :: [])) (by rw [c1] <;> rfl) ?_
    refine lv_lookup (off := 35) (tgt := 36) hx hb zd_X10_clings_1 (by decide) (by decide) (by decide) ?_
    refine zl_aload_n hx hb zd_X10_clings_36 rfl (lv_at hl 0 rfl) ?_
    refine lv_bipush (v := 12) hx hb zd_X10_clings_37 (by decide) ?_
    replace hf := zo_b hf; obtain ⟨r2, er2, hf⟩ := hf
    refine zw_callV (n := 1) (ci := 10) (q := zc_cl[10]) (As := [.int (12)]) (rest := []) S hK hw (zt_X10_ran l g h q 12 _ er2) zm_1506 zm_1508 zm_62 zq_X10_ran zm_79 (by decide +kernel) ⟨by simp only [zr_X10_clings, zr_X10_ran]; omega, by simp only [zr_X10_clings, zr_X10_ran]; omega⟩ rfl rfl rfl (zi_X10_ran er2) hl.1 rfl (by simp [zv_cat, zv_ci, zv_cj]) zd_X10_clings_39 ⟨(Nat.le_refl 0), (Nat.le_refl 0)⟩ (fun H locs hw => ?_)
    replace hw : zc_W g r2 H locs := hw
    refine zl_aload_n hx hb zd_X10_clings_42 rfl (lv_at hl 0 rfl) ?_
    refine lv_iload_n hx hb zd_X10_clings_43 rfl (lv_at hl 1 rfl) ?_
    refine zl_aload_n hx hb zd_X10_clings_44 rfl (lv_at hl 0 rfl) ?_
    refine lv_iconst (v := 0) hx hb zd_X10_clings_45 (by decide) ?_
    refine lv_iload_n hx hb zd_X10_clings_46 rfl (lv_at hl 1 rfl) ?_
    replace hf := zo_b hf; obtain ⟨r3, er3, hf⟩ := hf
    refine zw_callV (n := 2) (ci := 10) (q := zc_cl[10]) (As := [.int (0), .int (x1)]) (rest := [.int (x1), va_rf ((some q))]) S hK hw (zt_X10_of l g r2 q 0 x1 _ er3) zm_1259 zm_1261 zm_28 zq_X10_of zm_79 (by decide +kernel) ⟨by simp only [zr_X10_clings, zr_X10_of]; omega, by simp only [zr_X10_clings, zr_X10_of]; omega⟩ rfl rfl rfl (zi_X10_of er3) hl.1 rfl (by simp [zv_cat, zv_ci, zv_cj]) zd_X10_clings_47 ⟨(Nat.le_refl 0), (Nat.le_refl 0)⟩ (fun H locs hw => ?_)
    replace hw : zc_W g r2 H locs := hw
    refine lv_iload_n hx hb zd_X10_clings_50 rfl (lv_at hl 3 rfl) ?_
    replace hf := zo_b hf; obtain ⟨r4, er4, hf⟩ := hf
    refine zw_callV (n := 3) (ci := 10) (q := zc_cl[10]) (As := [.int (x1), .int (r3), .int (x3)]) (rest := []) S hK hw (zt_X10_weighs l g 20 r2 q x1 r3 x3 _ er4) zm_1510 zm_1512 zm_63 zq_X10_weighs zm_79 (by decide +kernel) ⟨by simp only [zr_X10_clings, zr_X10_weighs]; omega, by simp only [zr_X10_clings, zr_X10_weighs]; omega⟩ rfl rfl rfl (zi_X10_weighs er4) hl.1 rfl (by simp [zv_cat, zv_ci, zv_cj]) zd_X10_clings_51 ⟨(Nat.le_refl 0), (Nat.le_refl 0)⟩ (fun H locs hw => ?_)
    replace hw : zc_W g r4.1 H locs := hw
    refine lv_istore (i := 4) (lv' := [(4, .int (r4.2)), (0, va_rf ((some q))), (1, .int (x1)), (2, .int (x2)), (3, .int (x3))]) hx hb zd_X10_clings_54 hl (by decide) rfl (fun ls hl => ?_)
    refine lv_iload hx hb zd_X10_clings_56 (lv_at hl 0 rfl) ?_
    refine zl_aload_n hx hb zd_X10_clings_58 rfl (lv_at hl 1 rfl) ?_
    refine lv_iload_n hx hb zd_X10_clings_59 rfl (lv_at hl 2 rfl) ?_
    refine zl_aload_n hx hb zd_X10_clings_60 rfl (lv_at hl 1 rfl) ?_
    refine lv_iconst (v := 0) hx hb zd_X10_clings_61 (by decide) ?_
    refine lv_iload_n hx hb zd_X10_clings_62 rfl (lv_at hl 2 rfl) ?_
    replace hf := zo_b hf; obtain ⟨r5, er5, hf⟩ := hf
    refine zw_callV (n := 2) (ci := 10) (q := zc_cl[10]) (As := [.int (0), .int (x1)]) (rest := [.int (x1), va_rf ((some q)), .int (r4.2)]) S hK hw (zt_X10_of l g r4.1 q 0 x1 _ er5) zm_1259 zm_1261 zm_28 zq_X10_of zm_79 (by decide +kernel) ⟨by simp only [zr_X10_clings, zr_X10_of]; omega, by simp only [zr_X10_clings, zr_X10_of]; omega⟩ rfl rfl rfl (zi_X10_of er5) hl.1 rfl (by simp [zv_cat, zv_ci, zv_cj]) zd_X10_clings_63 ⟨(Nat.le_refl 0), (Nat.le_refl 0)⟩ (fun H locs hw => ?_)
    replace hw : zc_W g r4.1 H locs := hw
    refine lv_iload_n hx hb zd_X10_clings_66 rfl (lv_at hl 4 rfl) ?_
    refine zl_aload_n hx hb zd_X10_clings_67 rfl (lv_at hl 1 rfl) ?_
    refine lv_iconst (v := 1) hx hb zd_X10_clings_68 (by decide) ?_
    refine lv_iload_n hx hb zd_X10_clings_69 rfl (lv_at hl 2 rfl) ?_
    replace hf := zo_b hf; obtain ⟨r6, er6, hf⟩ := hf
    refine zw_callV (n := 2) (ci := 10) (q := zc_cl[10]) (As := [.int (1), .int (x1)]) (rest := [.int (x3), .int (r5), .int (x1), va_rf ((some q)), .int (r4.2)]) S hK hw (zt_X10_of l g r4.1 q 1 x1 _ er6) zm_1259 zm_1261 zm_28 zq_X10_of zm_79 (by decide +kernel) ⟨by simp only [zr_X10_clings, zr_X10_of]; omega, by simp only [zr_X10_clings, zr_X10_of]; omega⟩ rfl rfl rfl (zi_X10_of er6) hl.1 rfl (by simp [zv_cat, zv_ci, zv_cj]) zd_X10_clings_70 ⟨(Nat.le_refl 0), (Nat.le_refl 0)⟩ (fun H locs hw => ?_)
    replace hw : zc_W g r4.1 H locs := hw
    refine lv_isub hx hb zd_X10_clings_73 ?_
    replace hf := zo_b hf; obtain ⟨r7, er7, hf⟩ := hf
    refine zw_callV (n := 3) (ci := 10) (q := zc_cl[10]) (As := [.int (x1), .int (r5), .int ((x3 - r6))]) (rest := [.int (r4.2)]) S hK hw (zt_X10_points l g 20 r4.1 q x1 r5 (x3 - r6) _ er7) zm_1502 zm_1504 zm_61 zq_X10_points zm_79 (by decide +kernel) ⟨by simp only [zr_X10_clings, zr_X10_points]; omega, by simp only [zr_X10_clings, zr_X10_points]; omega⟩ rfl rfl rfl (zi_X10_points er7) hl.1 rfl (by simp [zv_cat, zv_ci, zv_cj]) zd_X10_clings_74 ⟨(Nat.le_refl 0), (Nat.le_refl 0)⟩ (fun H locs hw => ?_)
    replace hw : zc_W g r7.1 H locs := hw
    refine lv_ixor hx hb zd_X10_clings_77 ?_
    have hres := Option.some.inj hf; subst hres
    exact zw_iret (v := (r4.2 ^^^ r7.2)) (ty := .int) hx hb hr hlk rfl hw zd_X10_clings_78 (Nat.le_refl 0) (Nat.le_refl 0)
  replace hf := zo_f c1 hf
  by_cases c8 : x2 = 4
  · replace hf := zo_t c8 hf
    refine W.eq (g2 := F0 m 1 ls (.int 4 :: [])) (by rw [c8] <;> rfl) ?_
    refine lv_lookup (off := 78) (tgt := 79) hx hb zd_X10_clings_1 (by decide) (by decide) (by decide) ?_
    refine zl_aload_n hx hb zd_X10_clings_79 rfl (lv_at hl 0 rfl) ?_
    refine lv_bipush (v := 50) hx hb zd_X10_clings_80 (by decide) ?_
    replace hf := zo_b hf; obtain ⟨r9, er9, hf⟩ := hf
    refine zw_callV (n := 1) (ci := 10) (q := zc_cl[10]) (As := [.int (50)]) (rest := []) S hK hw (zt_X10_ran l g h q 50 _ er9) zm_1506 zm_1508 zm_62 zq_X10_ran zm_79 (by decide +kernel) ⟨by simp only [zr_X10_clings, zr_X10_ran]; omega, by simp only [zr_X10_clings, zr_X10_ran]; omega⟩ rfl rfl rfl (zi_X10_ran er9) hl.1 rfl (by simp [zv_cat, zv_ci, zv_cj]) zd_X10_clings_82 ⟨(Nat.le_refl 0), (Nat.le_refl 0)⟩ (fun H locs hw => ?_)
    replace hw : zc_W g r9 H locs := hw
    refine zl_aload_n hx hb zd_X10_clings_85 rfl (lv_at hl 0 rfl) ?_
    refine lv_iload_n hx hb zd_X10_clings_86 rfl (lv_at hl 1 rfl) ?_
    refine lv_iconst (v := 0) hx hb zd_X10_clings_87 (by decide) ?_
    refine lv_iload_n hx hb zd_X10_clings_88 rfl (lv_at hl 3 rfl) ?_
    replace hf := zo_b hf; obtain ⟨r10, er10, hf⟩ := hf
    refine zw_callV (n := 3) (ci := 10) (q := zc_cl[10]) (As := [.int (x1), .int (0), .int (x3)]) (rest := []) S hK hw (ihd r9 q x1 0 x3 _ er10) zm_1514 zm_1516 zm_64 zq_X10_clings zm_79 (by decide +kernel) ⟨by simp only [zr_X10_clings]; omega, by simp only [zr_X10_clings]; omega⟩ rfl rfl rfl (zi_X10_clings er10) hl.1 rfl (by simp [zv_cat, zv_ci, zv_cj]) zd_X10_clings_89 ⟨(Nat.le_refl 0), (Nat.le_refl 0)⟩ (fun H locs hw => ?_)
    replace hw : zc_W g r10.1 H locs := hw
    refine lv_ineg hx hb zd_X10_clings_92 ?_
    have hres := Option.some.inj hf; subst hres
    exact zw_iret (v := (-r10.2)) (ty := .int) hx hb hr hlk rfl hw zd_X10_clings_93 (Nat.le_refl 0) (Nat.le_refl 0)
  replace hf := zo_f c8 hf
  by_cases c11 : x2 = 5
  · replace hf := zo_t c11 hf
    refine W.eq (g2 := F0 m 1 ls (.int 5 :: [])) (by rw [c11] <;> rfl) ?_
    refine lv_lookup (off := 93) (tgt := 94) hx hb zd_X10_clings_1 (by decide) (by decide) (by decide) ?_
    refine zl_aload_n hx hb zd_X10_clings_94 rfl (lv_at hl 0 rfl) ?_
    refine lv_bipush (v := 60) hx hb zd_X10_clings_95 (by decide) ?_
    replace hf := zo_b hf; obtain ⟨r12, er12, hf⟩ := hf
    refine zw_callV (n := 1) (ci := 10) (q := zc_cl[10]) (As := [.int (60)]) (rest := []) S hK hw (zt_X10_ran l g h q 60 _ er12) zm_1506 zm_1508 zm_62 zq_X10_ran zm_79 (by decide +kernel) ⟨by simp only [zr_X10_clings, zr_X10_ran]; omega, by simp only [zr_X10_clings, zr_X10_ran]; omega⟩ rfl rfl rfl (zi_X10_ran er12) hl.1 rfl (by simp [zv_cat, zv_ci, zv_cj]) zd_X10_clings_97 ⟨(Nat.le_refl 0), (Nat.le_refl 0)⟩ (fun H locs hw => ?_)
    replace hw : zc_W g r12 H locs := hw
    refine zl_aload_n hx hb zd_X10_clings_100 rfl (lv_at hl 0 rfl) ?_
    refine lv_iload_n hx hb zd_X10_clings_101 rfl (lv_at hl 1 rfl) ?_
    refine lv_iconst (v := 2) hx hb zd_X10_clings_102 (by decide) ?_
    refine lv_iload_n hx hb zd_X10_clings_103 rfl (lv_at hl 3 rfl) ?_
    replace hf := zo_b hf; obtain ⟨r13, er13, hf⟩ := hf
    refine zw_callV (n := 3) (ci := 10) (q := zc_cl[10]) (As := [.int (x1), .int (2), .int (x3)]) (rest := []) S hK hw (ihd r12 q x1 2 x3 _ er13) zm_1514 zm_1516 zm_64 zq_X10_clings zm_79 (by decide +kernel) ⟨by simp only [zr_X10_clings]; omega, by simp only [zr_X10_clings]; omega⟩ rfl rfl rfl (zi_X10_clings er13) hl.1 rfl (by simp [zv_cat, zv_ci, zv_cj]) zd_X10_clings_104 ⟨(Nat.le_refl 0), (Nat.le_refl 0)⟩ (fun H locs hw => ?_)
    replace hw : zc_W g r13.1 H locs := hw
    refine lv_iconst (v := 5) hx hb zd_X10_clings_107 (by decide) ?_
    refine lv_ixor hx hb zd_X10_clings_108 ?_
    have hres := Option.some.inj hf; subst hres
    exact zw_iret (v := (r13.2 ^^^ 5)) (ty := .int) hx hb hr hlk rfl hw zd_X10_clings_109 (Nat.le_refl 0) (Nat.le_refl 0)
  replace hf := zo_f c11 hf
  have zc1 : (x2 : Int32).toInt ≠ 0 := fun h => c1 (Int32.toInt_inj.mp (h.trans (by decide)))
  have zc8 : (x2 : Int32).toInt ≠ 4 := fun h => c8 (Int32.toInt_inj.mp (h.trans (by decide)))
  have zc11 : (x2 : Int32).toInt ≠ 5 := fun h => c11 (Int32.toInt_inj.mp (h.trans (by decide)))
  refine lv_lookup (off := 109) (tgt := 110) hx hb zd_X10_clings_1 (by decide) (by simp [Op.lookupswitch.offset, Ne.symm zc1, Ne.symm zc8, Ne.symm zc11]) (by decide) ?_
  refine zl_aload_n hx hb zd_X10_clings_110 rfl (lv_at hl 0 rfl) ?_
  refine lv_iload_n hx hb zd_X10_clings_111 rfl (lv_at hl 1 rfl) ?_
  refine lv_iload_n hx hb zd_X10_clings_112 rfl (lv_at hl 2 rfl) ?_
  replace hf := zo_b hf; obtain ⟨r14, er14, hf⟩ := hf
  refine zw_callS (n := 1) (As := [.int (x2)]) (rest := [.int (x1), va_rf ((some q))]) S hK hw (zt_X10_above l g h x2 _ er14) zm_1266 zm_1267 zq_X10_above zm_79 (by decide +kernel) ⟨by simp only [zr_X10_clings, zr_X10_above]; omega, by simp only [zr_X10_clings, zr_X10_above]; omega⟩ rfl hl.1 rfl (by simp [zv_cat, zv_ci, zv_cj]) zd_X10_clings_113 ⟨(Nat.le_refl 0), (Nat.le_refl 0)⟩ (fun H locs hw => ?_)
  replace hw : zc_W g h H locs := hw
  refine lv_iload_n hx hb zd_X10_clings_116 rfl (lv_at hl 3 rfl) ?_
  replace hf := zo_b hf; obtain ⟨r15, er15, hf⟩ := hf
  refine zw_callV (n := 3) (ci := 10) (q := zc_cl[10]) (As := [.int (x1), .int (r14), .int (x3)]) (rest := []) S hK hw (ihd h q x1 r14 x3 _ er15) zm_1514 zm_1516 zm_64 zq_X10_clings zm_79 (by decide +kernel) ⟨by simp only [zr_X10_clings]; omega, by simp only [zr_X10_clings]; omega⟩ rfl rfl rfl (zi_X10_clings er15) hl.1 rfl (by simp [zv_cat, zv_ci, zv_cj]) zd_X10_clings_117 ⟨(Nat.le_refl 0), (Nat.le_refl 0)⟩ (fun H locs hw => ?_)
  replace hw : zc_W g r15.1 H locs := hw
  have hres := Option.some.inj hf; subst hres
  exact zw_iret (v := r15.2) (ty := .int) hx hb hr hlk rfl hw zd_X10_clings_120 (Nat.le_refl 0) (Nat.le_refl 0)
def zf_X10_act (h : zc_H) (q : Nat) (x1 : Int32) (x2 : Int32) (x3 : Int32) : Option (zc_H × Int32) :=
  if ¬ zf_is h q 10 = true then none else
  (zf_p h q 10 13 (.int (0))).bind fun h1 =>
  (zf_X10_isRemark h1 q x1).bind fun r2 =>
  if r2 = 0 then
    some (h1, 0)
  else
  (zf_X10_within h1 x2 0 2).bind fun r4 =>
  if r4 = 0 then
    some (h1, 0)
  else
  (zf_X10_of h1 q 0 x1).bind fun r6 =>
  if x2 = 0 then
    (zf_X10_points 20 h1 q x1 r6 x3).bind fun r11 =>
    some (r11.1, r11.2)
  else
  if x2 = 1 then
    (zf_X10_weighs 20 h1 q x1 r6 x3).bind fun r10 =>
    some (r10.1, r10.2)
  else
  (zf_X10_clings 20 h1 q x1 r6 x3).bind fun r9 =>
  some (r9.1, r9.2)
abbrev zr_X10_act : Room := { frames := 64, cells := 0, slots := 0, locals := 1492 }
theorem zi_X10_act {h : zc_H} {q : Nat} {x1 : Int32} {x2 : Int32} {x3 : Int32} {res : zc_H × Int32} (hf : zf_X10_act h q x1 x2 x3 = some res) : zf_is h q 10 = true := Decidable.not_not.mp (zo_n hf).1
set_option maxHeartbeats 4000000 in
set_option maxRecDepth 20000 in
theorem zt_X10_act (l : Launch) (g : zc_G) (h : zc_H) (q : Nat) (x1 : Int32) (x2 : Int32) (x3 : Int32) (res : zc_H × Int32) (hf : zf_X10_act h q x1 x2 x3 = some res) : zc_M l g yX10_act cX10_act 5 (some .int) zr_X10_act h [va_rf ((some q)), .int (x1), .int (x2), .int (x3)] res.1 (some (.int (res.2))) := by
  refine zc_M.of (by decide) (by simp [lg_sl, zv_cat, zv_ci, zv_cj]) ?_
  intro p e s m below meth c ls S hK hw hr hlk hnm hl
  replace S : CallFix p m c cX10_act 5 s [va_rf ((some q)), .int (x1), .int (x2), .int (x3)].toArray (zc_ws yX10_act cX10_act 5 (some .int)) RX10 := S
  have hx := S.1
  have hb := S.2.1
  replace hl : lv_has ls 5 [(0, va_rf ((some q))), (1, .int (x1)), (2, .int (x2)), (3, .int (x3))] := by simpa [lv_args, zv_cat, zv_ci, zv_cj] using hl
  generalize s.heap = H at hw ⊢
  obtain ⟨locs, hlocs⟩ : ∃ L : List Loc, L = [] := ⟨_, rfl⟩
  rw [← hlocs] at hw ⊢
  unfold zf_X10_act at hf
  obtain ⟨-, hf⟩ := zo_n hf
  refine zl_aload_n hx hb zd_X10_act_0 rfl (lv_at hl 0 rfl) ?_
  refine lv_iconst (v := 0) hx hb zd_X10_act_1 (by decide) ?_
  replace hf := zo_b hf; obtain ⟨h1, eh1, hf⟩ := hf
  refine zw_put S hK hw zk_10 (k := 13) (by decide) rfl zm_1101 (Or.inl rfl) eh1 (ty := .int) (by decide +kernel) rfl rfl zd_X10_act_2 (fun H locs hw => ?_)
  refine zl_aload_n hx hb zd_X10_act_5 rfl (lv_at hl 0 rfl) ?_
  refine lv_iload_n hx hb zd_X10_act_6 rfl (lv_at hl 1 rfl) ?_
  replace hf := zo_b hf; obtain ⟨r2, er2, hf⟩ := hf
  refine zw_callV (n := 1) (ci := 10) (q := zc_cl[10]) (As := [.int (x1)]) (rest := []) S hK hw (zt_X10_isRemark l g h1 q x1 _ er2) zm_1247 zm_1249 zm_27 zq_X10_isRemark zm_79 (by decide +kernel) ⟨Nat.le_of_ble_eq_true rfl, Nat.le_of_ble_eq_true rfl⟩ rfl rfl rfl (zi_X10_isRemark er2) hl.1 rfl (by simp [zv_cat, zv_ci, zv_cj]) zd_X10_act_7 ⟨(Nat.le_refl 0), (Nat.le_refl 0)⟩ (fun H locs hw => ?_)
  replace hw : zc_W g h1 H locs := hw
  refine lv_if_eq (tgt := 22) hx hb zd_X10_act_10 (by decide) (fun c3 => ?_) (fun c3 => ?_)
  · replace hf := zo_t c3 hf
    refine lv_iconst (v := 0) hx hb zd_X10_act_22 (by decide) ?_
    have hres := Option.some.inj hf; subst hres
    exact zw_iret (v := 0) (ty := .int) hx hb hr hlk rfl hw zd_X10_act_23 (Nat.le_refl 0) (Nat.le_refl 0)
  · replace hf := zo_f c3 hf
    refine lv_iload_n hx hb zd_X10_act_13 rfl (lv_at hl 2 rfl) ?_
    refine lv_iconst (v := 0) hx hb zd_X10_act_14 (by decide) ?_
    refine lv_iconst (v := 2) hx hb zd_X10_act_15 (by decide) ?_
    replace hf := zo_b hf; obtain ⟨r4, er4, hf⟩ := hf
    refine zw_callS (n := 3) (As := [.int (x2), .int (0), .int (2)]) (rest := []) S hK hw (zt_X10_within l g h1 x2 0 2 _ er4) zm_1216 zm_1217 zq_X10_within zm_79 (by decide +kernel) ⟨Nat.le_of_ble_eq_true rfl, Nat.le_of_ble_eq_true rfl⟩ rfl hl.1 rfl (by simp [zv_cat, zv_ci, zv_cj]) zd_X10_act_16 ⟨(Nat.le_refl 0), (Nat.le_refl 0)⟩ (fun H locs hw => ?_)
    replace hw : zc_W g h1 H locs := hw
    refine lv_if_ne (tgt := 24) hx hb zd_X10_act_19 (by decide) (fun c5 => ?_) (fun c5 => ?_)
    · replace hf := zo_f c5 hf
      refine zl_aload_n hx hb zd_X10_act_24 rfl (lv_at hl 0 rfl) ?_
      refine lv_iconst (v := 0) hx hb zd_X10_act_25 (by decide) ?_
      refine lv_iload_n hx hb zd_X10_act_26 rfl (lv_at hl 1 rfl) ?_
      replace hf := zo_b hf; obtain ⟨r6, er6, hf⟩ := hf
      refine zw_callV (n := 2) (ci := 10) (q := zc_cl[10]) (As := [.int (0), .int (x1)]) (rest := []) S hK hw (zt_X10_of l g h1 q 0 x1 _ er6) zm_1259 zm_1261 zm_28 zq_X10_of zm_79 (by decide +kernel) ⟨Nat.le_of_ble_eq_true rfl, Nat.le_of_ble_eq_true rfl⟩ rfl rfl rfl (zi_X10_of er6) hl.1 rfl (by simp [zv_cat, zv_ci, zv_cj]) zd_X10_act_27 ⟨(Nat.le_refl 0), (Nat.le_refl 0)⟩ (fun H locs hw => ?_)
      replace hw : zc_W g h1 H locs := hw
      refine lv_istore (i := 4) (lv' := [(4, .int (r6)), (0, va_rf ((some q))), (1, .int (x1)), (2, .int (x2)), (3, .int (x3))]) hx hb zd_X10_act_30 hl (by decide) rfl (fun ls hl => ?_)
      refine lv_iload_n hx hb zd_X10_act_32 rfl (lv_at hl 3 rfl) ?_
      refine lv_if_ne (tgt := 47) hx hb zd_X10_act_33 (by decide) (fun c7 => ?_) (fun c7 => ?_)
      · replace hf := zo_f c7 hf
        refine lv_iload_n hx hb zd_X10_act_47 rfl (lv_at hl 3 rfl) ?_
        refine lv_iconst (v := 1) hx hb zd_X10_act_48 (by decide) ?_
        refine lv_icmp_ne (tgt := 63) hx hb zd_X10_act_49 (by decide) (fun c8 => ?_) (fun c8 => ?_)
        · replace hf := zo_f c8 hf
          refine zl_aload_n hx hb zd_X10_act_63 rfl (lv_at hl 1 rfl) ?_
          refine lv_iload_n hx hb zd_X10_act_64 rfl (lv_at hl 2 rfl) ?_
          refine lv_iload hx hb zd_X10_act_65 (lv_at hl 0 rfl) ?_
          refine lv_iload_n hx hb zd_X10_act_67 rfl (lv_at hl 4 rfl) ?_
          replace hf := zo_b hf; obtain ⟨r9, er9, hf⟩ := hf
          refine zw_callV (n := 3) (ci := 10) (q := zc_cl[10]) (As := [.int (x1), .int (r6), .int (x3)]) (rest := []) S hK hw (zt_X10_clings l g 20 h1 q x1 r6 x3 _ er9) zm_1514 zm_1516 zm_64 zq_X10_clings zm_79 (by decide +kernel) ⟨Nat.le_of_ble_eq_true rfl, Nat.le_of_ble_eq_true rfl⟩ rfl rfl rfl (zi_X10_clings er9) hl.1 rfl (by simp [zv_cat, zv_ci, zv_cj]) zd_X10_act_68 ⟨(Nat.le_refl 0), (Nat.le_refl 0)⟩ (fun H locs hw => ?_)
          replace hw : zc_W g r9.1 H locs := hw
          have hres := Option.some.inj hf; subst hres
          exact zw_iret (v := r9.2) (ty := .int) hx hb hr hlk rfl hw zd_X10_act_71 (Nat.le_refl 0) (Nat.le_refl 0)
        · replace hf := zo_t c8 hf
          refine zl_aload_n hx hb zd_X10_act_52 rfl (lv_at hl 1 rfl) ?_
          refine lv_iload_n hx hb zd_X10_act_53 rfl (lv_at hl 2 rfl) ?_
          refine lv_iload hx hb zd_X10_act_54 (lv_at hl 0 rfl) ?_
          refine lv_iload_n hx hb zd_X10_act_56 rfl (lv_at hl 4 rfl) ?_
          replace hf := zo_b hf; obtain ⟨r10, er10, hf⟩ := hf
          refine zw_callV (n := 3) (ci := 10) (q := zc_cl[10]) (As := [.int (x1), .int (r6), .int (x3)]) (rest := []) S hK hw (zt_X10_weighs l g 20 h1 q x1 r6 x3 _ er10) zm_1510 zm_1512 zm_63 zq_X10_weighs zm_79 (by decide +kernel) ⟨Nat.le_of_ble_eq_true rfl, Nat.le_of_ble_eq_true rfl⟩ rfl rfl rfl (zi_X10_weighs er10) hl.1 rfl (by simp [zv_cat, zv_ci, zv_cj]) zd_X10_act_57 ⟨(Nat.le_refl 0), (Nat.le_refl 0)⟩ (fun H locs hw => ?_)
          replace hw : zc_W g r10.1 H locs := hw
          refine lv_goto (tgt := 71) hx hb zd_X10_act_60 (by decide) ?_
          have hres := Option.some.inj hf; subst hres
          exact zw_iret (v := r10.2) (ty := .int) hx hb hr hlk rfl hw zd_X10_act_71 (Nat.le_refl 0) (Nat.le_refl 0)
      · replace hf := zo_t c7 hf
        refine zl_aload_n hx hb zd_X10_act_36 rfl (lv_at hl 1 rfl) ?_
        refine lv_iload_n hx hb zd_X10_act_37 rfl (lv_at hl 2 rfl) ?_
        refine lv_iload hx hb zd_X10_act_38 (lv_at hl 0 rfl) ?_
        refine lv_iload_n hx hb zd_X10_act_40 rfl (lv_at hl 4 rfl) ?_
        replace hf := zo_b hf; obtain ⟨r11, er11, hf⟩ := hf
        refine zw_callV (n := 3) (ci := 10) (q := zc_cl[10]) (As := [.int (x1), .int (r6), .int (x3)]) (rest := []) S hK hw (zt_X10_points l g 20 h1 q x1 r6 x3 _ er11) zm_1502 zm_1504 zm_61 zq_X10_points zm_79 (by decide +kernel) ⟨Nat.le_of_ble_eq_true rfl, Nat.le_of_ble_eq_true rfl⟩ rfl rfl rfl (zi_X10_points er11) hl.1 rfl (by simp [zv_cat, zv_ci, zv_cj]) zd_X10_act_41 ⟨(Nat.le_refl 0), (Nat.le_refl 0)⟩ (fun H locs hw => ?_)
        replace hw : zc_W g r11.1 H locs := hw
        refine lv_goto (tgt := 71) hx hb zd_X10_act_44 (by decide) ?_
        have hres := Option.some.inj hf; subst hres
        exact zw_iret (v := r11.2) (ty := .int) hx hb hr hlk rfl hw zd_X10_act_71 (Nat.le_refl 0) (Nat.le_refl 0)
    · replace hf := zo_t c5 hf
      refine lv_iconst (v := 0) hx hb zd_X10_act_22 (by decide) ?_
      have hres := Option.some.inj hf; subst hres
      exact zw_iret (v := 0) (ty := .int) hx hb hr hlk rfl hw zd_X10_act_23 (Nat.le_refl 0) (Nat.le_refl 0)
def zf_X10_trace (h : zc_H) (q : Nat) (x1 : Int32) : Option (Int32) :=
  if ¬ zf_is h q 10 = true then none else
  (zf_gi h q 10 13).bind fun v1 =>
  (zf_X10_within h x1 0 ((if v1 < 20 then v1 else 20) - 1)).bind fun r3 =>
  if r3 = 0 then
    some (-1)
  else
  (zf_gr h q 10 14).bind fun v5 =>
  v5.bind fun a7 =>
  (zf_ai h a7 0 x1).bind fun v8 =>
  some v8
abbrev zr_X10_trace : Room := { frames := 1, cells := 0, slots := 0, locals := 40 }
theorem zi_X10_trace {h : zc_H} {q : Nat} {x1 : Int32} {res : Int32} (hf : zf_X10_trace h q x1 = some res) : zf_is h q 10 = true := Decidable.not_not.mp (zo_n hf).1
set_option maxHeartbeats 4000000 in
set_option maxRecDepth 20000 in
theorem zt_X10_trace (l : Launch) (g : zc_G) (h : zc_H) (q : Nat) (x1 : Int32) (res : Int32) (hf : zf_X10_trace h q x1 = some res) : zc_M l g yX10_trace cX10_trace 2 (some .int) zr_X10_trace h [va_rf ((some q)), .int (x1)] h (some (.int (res))) := by
  refine zc_M.of (by decide) (by simp [lg_sl, zv_cat, zv_ci, zv_cj]) ?_
  intro p e s m below meth c ls S hK hw hr hlk hnm hl
  replace S : CallFix p m c cX10_trace 2 s [va_rf ((some q)), .int (x1)].toArray (zc_ws yX10_trace cX10_trace 2 (some .int)) RX10 := S
  have hx := S.1
  have hb := S.2.1
  replace hl : lv_has ls 2 [(0, va_rf ((some q))), (1, .int (x1))] := by simpa [lv_args, zv_cat, zv_ci, zv_cj] using hl
  generalize s.heap = H at hw ⊢
  obtain ⟨locs, hlocs⟩ : ∃ L : List Loc, L = [] := ⟨_, rfl⟩
  rw [← hlocs] at hw ⊢
  unfold zf_X10_trace at hf
  obtain ⟨-, hf⟩ := zo_n hf
  refine lv_iload_n hx hb zd_X10_trace_0 rfl (lv_at hl 1 rfl) ?_
  refine lv_iconst (v := 0) hx hb zd_X10_trace_1 (by decide) ?_
  refine lv_bipush (v := 20) hx hb zd_X10_trace_2 (by decide) ?_
  refine zl_aload_n hx hb zd_X10_trace_4 rfl (lv_at hl 0 rfl) ?_
  replace hf := zo_b hf; obtain ⟨v1, ev1, hf⟩ := hf
  obtain ⟨u2, u2e, u2v⟩ := zo_b ev1
  obtain rfl := zv_i_e u2v
  refine zw_get S hK hw zk_10 (k := 13) (by decide) rfl zm_1101 (Or.inl rfl) u2e zd_X10_trace_5 ?_
  refine va_mmin hx hb (S.2.2.1.trans hl.1.symm) S.2.2.2.1 (S.2.2.2.2 _ (List.mem_cons_of_mem _ zm_1423)) (S.2.2.2.2 _ (List.mem_cons_of_mem _ zm_522)) (S.2.2.2.2 _ (List.mem_cons_of_mem _ zm_85)) (S.2.2.2.2 _ (List.mem_cons_of_mem _ zm_523)) (Nat.le_of_ble_eq_true rfl) (by simp [zv_cat, zv_ci, zv_cj, zr_X10_trace]) (Nat.le_refl 0) (Nat.le_refl 0) zd_X10_trace_8 ?_
  refine lv_iconst (v := 1) hx hb zd_X10_trace_11 (by decide) ?_
  refine lv_isub hx hb zd_X10_trace_12 ?_
  replace hf := zo_b hf; obtain ⟨r3, er3, hf⟩ := hf
  refine zw_callS (n := 3) (As := [.int (x1), .int (0), .int (((if v1 < 20 then v1 else 20) - 1))]) (rest := []) S hK hw (zt_X10_within l g h x1 0 ((if v1 < 20 then v1 else 20) - 1) _ er3) zm_1216 zm_1217 zq_X10_within zm_79 (by decide +kernel) ⟨Nat.le_of_ble_eq_true rfl, Nat.le_of_ble_eq_true rfl⟩ rfl hl.1 rfl (by simp [zv_cat, zv_ci, zv_cj]) zd_X10_trace_13 ⟨(Nat.le_refl 0), (Nat.le_refl 0)⟩ (fun H locs hw => ?_)
  replace hw : zc_W g h H locs := hw
  refine lv_if_eq (tgt := 28) hx hb zd_X10_trace_16 (by decide) (fun c4 => ?_) (fun c4 => ?_)
  · replace hf := zo_t c4 hf
    refine lv_iconst (v := (-1)) hx hb zd_X10_trace_28 (by decide) ?_
    have hres := Option.some.inj hf; subst hres
    exact zw_iret (v := (-1)) (ty := .int) hx hb hr hlk rfl hw zd_X10_trace_29 (Nat.le_refl 0) (Nat.le_refl 0)
  · replace hf := zo_f c4 hf
    refine zl_aload_n hx hb zd_X10_trace_19 rfl (lv_at hl 0 rfl) ?_
    replace hf := zo_b hf; obtain ⟨v5, ev5, hf⟩ := hf
    obtain ⟨u6, u6e, u6v⟩ := zo_b ev5
    obtain rfl := zv_r_e u6v
    refine zw_get S hK hw zk_10 (k := 14) (by decide) rfl zm_1102 (Or.inl rfl) u6e zd_X10_trace_20 ?_
    refine lv_iload_n hx hb zd_X10_trace_23 rfl (lv_at hl 1 rfl) ?_
    replace hf := zo_b hf; obtain ⟨a7, na7, hf⟩ := hf
    refine W.eq (g2 := F0 m 24 ls [.int (x1), va_rf ((some a7))]) (by rw [na7] <;> rfl) ?_
    replace hf := zo_b hf; obtain ⟨v8, ev8, hf⟩ := hf
    refine zw_iald S hK hw ev8 zd_X10_trace_24 ?_
    refine lv_goto (tgt := 29) hx hb zd_X10_trace_25 (by decide) ?_
    have hres := Option.some.inj hf; subst hres
    exact zw_iret (v := v8) (ty := .int) hx hb hr hlk rfl hw zd_X10_trace_29 (Nat.le_refl 0) (Nat.le_refl 0)
def zf_X10_image_L31 (q : Nat) : Nat → zc_H → Int32 → Option (zc_H)
  | 0, _, _ => none
  | n + 1, h, y1 =>
    if 16 ≤ y1 then
      some h
    else
    (zf_gr h q 10 18).bind fun v12 =>
    (zf_gr h q 10 1).bind fun v14 =>
    v14.bind fun a16 =>
    (zf_ai h a16 0 y1).bind fun v17 =>
    v12.bind fun a18 =>
    (zf_si h a18 0 y1 v17).bind fun h19 =>
    (zf_gr h19 q 10 19).bind fun v20 =>
    (zf_gr h19 q 10 2).bind fun v22 =>
    v22.bind fun a24 =>
    (zf_ai h19 a24 0 y1).bind fun v25 =>
    v20.bind fun a26 =>
    (zf_si h19 a26 0 y1 v25).bind fun h27 =>
    zf_X10_image_L31 q n h27 (y1 + 1)
def zf_X10_image_L69 (q : Nat) : Nat → zc_H → Int32 → Option (zc_H)
  | 0, _, _ => none
  | n + 1, h, y1 =>
    if 384 ≤ y1 then
      some h
    else
    (zf_gr h q 10 20).bind fun v30 =>
    (zf_gr h q 10 3).bind fun v32 =>
    v32.bind fun a34 =>
    (zf_aj h a34 y1).bind fun v35 =>
    v30.bind fun a36 =>
    (zf_sj h a36 y1 v35).bind fun h37 =>
    zf_X10_image_L69 q n h37 (y1 + 1)
def zf_X10_image_L96 (q : Nat) : Nat → zc_H → Int32 → Option (zc_H)
  | 0, _, _ => none
  | n + 1, h, y1 =>
    if 112 ≤ y1 then
      some h
    else
    (zf_gr h q 10 22).bind fun v40 =>
    (zf_gr h q 10 6).bind fun v42 =>
    v42.bind fun a44 =>
    (zf_ai h a44 0 y1).bind fun v45 =>
    v40.bind fun a46 =>
    (zf_si h a46 0 y1 v45).bind fun h47 =>
    zf_X10_image_L96 q n h47 (y1 + 1)
def zf_X10_image_L122 (q : Nat) : Nat → zc_H → Int32 → Option (zc_H)
  | 0, _, _ => none
  | n + 1, h, y1 =>
    if 3 ≤ y1 then
      some h
    else
    (zf_gr h q 10 23).bind fun v50 =>
    (zf_gr h q 10 7).bind fun v52 =>
    v52.bind fun a54 =>
    (zf_ai h a54 0 y1).bind fun v55 =>
    v50.bind fun a56 =>
    (zf_si h a56 0 y1 v55).bind fun h57 =>
    zf_X10_image_L122 q n h57 (y1 + 1)
def zf_X10_image (h : zc_H) (q : Nat) : Option (zc_H × Int32) :=
  if ¬ zf_is h q 10 = true then none else
  (zf_p h q 10 16 (.int (1))).bind fun h1 =>
  (zf_gi h1 q 10 0).bind fun v2 =>
  (zf_p h1 q 10 17 (.int (v2))).bind fun h4 =>
  (zf_gi h4 q 10 5).bind fun v5 =>
  (zf_p h4 q 10 21 (.int (v5))).bind fun h7 =>
  (zf_gi h7 q 10 8).bind fun v8 =>
  (zf_p h7 q 10 24 (.int (v8))).bind fun h10 =>
  (zf_X10_image_L31 q 2000 h10 0).bind fun w28 =>
  (zf_X10_image_L69 q 2000 w28 0).bind fun w38 =>
  (zf_X10_image_L96 q 2000 w38 0).bind fun w48 =>
  (zf_X10_image_L122 q 2000 w48 0).bind fun w58 =>
  (zf_gi w58 q 10 5).bind fun v59 =>
  some (w58, v59)
abbrev zr_X10_image : Room := { frames := 0, cells := 0, slots := 0, locals := 0 }
theorem zi_X10_image {h : zc_H} {q : Nat} {res : zc_H × Int32} (hf : zf_X10_image h q = some res) : zf_is h q 10 = true := Decidable.not_not.mp (zo_n hf).1
set_option maxHeartbeats 4000000 in
set_option maxRecDepth 20000 in
theorem zt_X10_image (l : Launch) (g : zc_G) (h : zc_H) (q : Nat) (res : zc_H × Int32) (hf : zf_X10_image h q = some res) : zc_M l g yX10_image cX10_image 2 (some .int) zr_X10_image h [va_rf ((some q))] res.1 (some (.int (res.2))) := by
  refine zc_M.of (by decide) (by simp [lg_sl, zv_cat, zv_ci, zv_cj]) ?_
  intro p e s m below meth c ls S hK hw hr hlk hnm hl
  replace S : CallFix p m c cX10_image 2 s [va_rf ((some q))].toArray (zc_ws yX10_image cX10_image 2 (some .int)) RX10 := S
  have hx := S.1
  have hb := S.2.1
  replace hl : lv_has ls 2 [(0, va_rf ((some q)))] := by simpa [lv_args, zv_cat, zv_ci, zv_cj] using hl
  generalize s.heap = H at hw ⊢
  obtain ⟨locs, hlocs⟩ : ∃ L : List Loc, L = [] := ⟨_, rfl⟩
  rw [← hlocs] at hw ⊢
  have L31 : ∀  (n : Nat) (h : zc_H) (y1 : Int32) (w : zc_H) (H : Heap) (locs : List Loc) (ls : Array Slot), zf_X10_image_L31 q n h y1 = some w → zc_W g h H locs → lv_has ls 2 [(0, va_rf ((some q))), (1, .int (y1))] → (∀ (H : Heap) (locs : List Loc) (ls : Array Slot), zc_W g w H locs → lv_has ls 2 [(0, va_rf ((some q)))] → W p l e zr_X10_image s m [va_rf ((some q))].toArray below meth c H locs 0 0 (zc_Q g below zr_X10_image (some (.int (res.2))) res.1 [va_rf ((some q))] s) (F0 m 67 ls [])) → W p l e zr_X10_image s m [va_rf ((some q))].toArray below meth c H locs 0 0 (zc_Q g below zr_X10_image (some (.int (res.2))) res.1 [va_rf ((some q))] s) (F0 m 31 ls []) := by
    intro n
    induction n with
    | zero =>
      intro h y1 w H locs ls hf
      cases hf
    | succ n ih =>
      intro h y1 w H locs ls hf hw hl  kk
      unfold zf_X10_image_L31 at hf
      refine lv_iload_n hx hb zd_X10_image_31 rfl (lv_at hl 1 rfl) ?_
      refine lv_bipush (v := 16) hx hb zd_X10_image_32 (by decide) ?_
      refine lv_icmp_ge (tgt := 67) hx hb zd_X10_image_34 (by decide) (fun c11 => ?_) (fun c11 => ?_)
      · replace hf := zo_t c11 hf
        have hres := Option.some.inj hf; subst hres
        exact kk _ _ _ hw (lv_sub hl [0] rfl)
      · replace hf := zo_f c11 hf
        refine zl_aload_n hx hb zd_X10_image_37 rfl (lv_at hl 0 rfl) ?_
        replace hf := zo_b hf; obtain ⟨v12, ev12, hf⟩ := hf
        obtain ⟨u13, u13e, u13v⟩ := zo_b ev12
        obtain rfl := zv_r_e u13v
        refine zw_get S hK hw zk_10 (k := 18) (by decide) rfl zm_1106 (Or.inl rfl) u13e zd_X10_image_38 ?_
        refine lv_iload_n hx hb zd_X10_image_41 rfl (lv_at hl 1 rfl) ?_
        refine zl_aload_n hx hb zd_X10_image_42 rfl (lv_at hl 0 rfl) ?_
        replace hf := zo_b hf; obtain ⟨v14, ev14, hf⟩ := hf
        obtain ⟨u15, u15e, u15v⟩ := zo_b ev14
        obtain rfl := zv_r_e u15v
        refine zw_get S hK hw zk_10 (k := 1) (by decide) rfl zm_1089 (Or.inl rfl) u15e zd_X10_image_43 ?_
        refine lv_iload_n hx hb zd_X10_image_46 rfl (lv_at hl 1 rfl) ?_
        replace hf := zo_b hf; obtain ⟨a16, na16, hf⟩ := hf
        refine W.eq (g2 := F0 m 47 ls [.int (y1), va_rf ((some a16)), .int (y1), va_rf (v12)]) (by rw [na16] <;> rfl) ?_
        replace hf := zo_b hf; obtain ⟨v17, ev17, hf⟩ := hf
        refine zw_iald S hK hw ev17 zd_X10_image_47 ?_
        replace hf := zo_b hf; obtain ⟨a18, na18, hf⟩ := hf
        refine W.eq (g2 := F0 m 48 ls [.int (v17), .int (y1), va_rf ((some a18))]) (by rw [na18] <;> rfl) ?_
        replace hf := zo_b hf; obtain ⟨h19, eh19, hf⟩ := hf
        refine zw_iast S hK hw eh19 zd_X10_image_48 (fun H locs hw => ?_)
        refine zl_aload_n hx hb zd_X10_image_49 rfl (lv_at hl 0 rfl) ?_
        replace hf := zo_b hf; obtain ⟨v20, ev20, hf⟩ := hf
        obtain ⟨u21, u21e, u21v⟩ := zo_b ev20
        obtain rfl := zv_r_e u21v
        refine zw_get S hK hw zk_10 (k := 19) (by decide) rfl zm_1107 (Or.inl rfl) u21e zd_X10_image_50 ?_
        refine lv_iload_n hx hb zd_X10_image_53 rfl (lv_at hl 1 rfl) ?_
        refine zl_aload_n hx hb zd_X10_image_54 rfl (lv_at hl 0 rfl) ?_
        replace hf := zo_b hf; obtain ⟨v22, ev22, hf⟩ := hf
        obtain ⟨u23, u23e, u23v⟩ := zo_b ev22
        obtain rfl := zv_r_e u23v
        refine zw_get S hK hw zk_10 (k := 2) (by decide) rfl zm_1090 (Or.inl rfl) u23e zd_X10_image_55 ?_
        refine lv_iload_n hx hb zd_X10_image_58 rfl (lv_at hl 1 rfl) ?_
        replace hf := zo_b hf; obtain ⟨a24, na24, hf⟩ := hf
        refine W.eq (g2 := F0 m 59 ls [.int (y1), va_rf ((some a24)), .int (y1), va_rf (v20)]) (by rw [na24] <;> rfl) ?_
        replace hf := zo_b hf; obtain ⟨v25, ev25, hf⟩ := hf
        refine zw_iald S hK hw ev25 zd_X10_image_59 ?_
        replace hf := zo_b hf; obtain ⟨a26, na26, hf⟩ := hf
        refine W.eq (g2 := F0 m 60 ls [.int (v25), .int (y1), va_rf ((some a26))]) (by rw [na26] <;> rfl) ?_
        replace hf := zo_b hf; obtain ⟨h27, eh27, hf⟩ := hf
        refine zw_iast S hK hw eh27 zd_X10_image_60 (fun H locs hw => ?_)
        refine lv_iinc (i := 1) (v := (y1 + 1)) (lv' := [(1, .int ((y1 + 1))), (0, va_rf ((some q)))]) hx hb zd_X10_image_61 hl (k := 1) rfl (congrArg (_ + ·) (by decide)) (by decide) rfl (fun ls hl => ?_)
        refine lv_goto (tgt := 31) hx hb zd_X10_image_64 (by decide) ?_
        exact ih h27 (y1 + 1) _ _ _ _ hf hw (lv_sub hl [1, 0] rfl) kk
  have L69 : ∀  (n : Nat) (h : zc_H) (y1 : Int32) (w : zc_H) (H : Heap) (locs : List Loc) (ls : Array Slot), zf_X10_image_L69 q n h y1 = some w → zc_W g h H locs → lv_has ls 2 [(0, va_rf ((some q))), (1, .int (y1))] → (∀ (H : Heap) (locs : List Loc) (ls : Array Slot), zc_W g w H locs → lv_has ls 2 [(0, va_rf ((some q)))] → W p l e zr_X10_image s m [va_rf ((some q))].toArray below meth c H locs 0 0 (zc_Q g below zr_X10_image (some (.int (res.2))) res.1 [va_rf ((some q))] s) (F0 m 94 ls [])) → W p l e zr_X10_image s m [va_rf ((some q))].toArray below meth c H locs 0 0 (zc_Q g below zr_X10_image (some (.int (res.2))) res.1 [va_rf ((some q))] s) (F0 m 69 ls []) := by
    intro n
    induction n with
    | zero =>
      intro h y1 w H locs ls hf
      cases hf
    | succ n ih =>
      intro h y1 w H locs ls hf hw hl  kk
      unfold zf_X10_image_L69 at hf
      refine lv_iload_n hx hb zd_X10_image_69 rfl (lv_at hl 1 rfl) ?_
      refine lv_sipush (v := 384) hx hb zd_X10_image_70 (by decide) ?_
      refine lv_icmp_ge (tgt := 94) hx hb zd_X10_image_73 (by decide) (fun c29 => ?_) (fun c29 => ?_)
      · replace hf := zo_t c29 hf
        have hres := Option.some.inj hf; subst hres
        exact kk _ _ _ hw (lv_sub hl [0] rfl)
      · replace hf := zo_f c29 hf
        refine zl_aload_n hx hb zd_X10_image_76 rfl (lv_at hl 0 rfl) ?_
        replace hf := zo_b hf; obtain ⟨v30, ev30, hf⟩ := hf
        obtain ⟨u31, u31e, u31v⟩ := zo_b ev30
        obtain rfl := zv_r_e u31v
        refine zw_get S hK hw zk_10 (k := 20) (by decide) rfl zm_1108 (Or.inl rfl) u31e zd_X10_image_77 ?_
        refine lv_iload_n hx hb zd_X10_image_80 rfl (lv_at hl 1 rfl) ?_
        refine zl_aload_n hx hb zd_X10_image_81 rfl (lv_at hl 0 rfl) ?_
        replace hf := zo_b hf; obtain ⟨v32, ev32, hf⟩ := hf
        obtain ⟨u33, u33e, u33v⟩ := zo_b ev32
        obtain rfl := zv_r_e u33v
        refine zw_get S hK hw zk_10 (k := 3) (by decide) rfl zm_1091 (Or.inl rfl) u33e zd_X10_image_82 ?_
        refine lv_iload_n hx hb zd_X10_image_85 rfl (lv_at hl 1 rfl) ?_
        replace hf := zo_b hf; obtain ⟨a34, na34, hf⟩ := hf
        refine W.eq (g2 := F0 m 86 ls [.int (y1), va_rf ((some a34)), .int (y1), va_rf (v30)]) (by rw [na34] <;> rfl) ?_
        replace hf := zo_b hf; obtain ⟨v35, ev35, hf⟩ := hf
        refine zw_lald S hK hw ev35 zd_X10_image_86 ?_
        replace hf := zo_b hf; obtain ⟨a36, na36, hf⟩ := hf
        refine W.eq (g2 := F0 m 87 ls [.long (v35), .int (y1), va_rf ((some a36))]) (by rw [na36] <;> rfl) ?_
        replace hf := zo_b hf; obtain ⟨h37, eh37, hf⟩ := hf
        refine zw_last S hK hw eh37 zd_X10_image_87 (fun H locs hw => ?_)
        refine lv_iinc (i := 1) (v := (y1 + 1)) (lv' := [(1, .int ((y1 + 1))), (0, va_rf ((some q)))]) hx hb zd_X10_image_88 hl (k := 1) rfl (congrArg (_ + ·) (by decide)) (by decide) rfl (fun ls hl => ?_)
        refine lv_goto (tgt := 69) hx hb zd_X10_image_91 (by decide) ?_
        exact ih h37 (y1 + 1) _ _ _ _ hf hw (lv_sub hl [1, 0] rfl) kk
  have L96 : ∀  (n : Nat) (h : zc_H) (y1 : Int32) (w : zc_H) (H : Heap) (locs : List Loc) (ls : Array Slot), zf_X10_image_L96 q n h y1 = some w → zc_W g h H locs → lv_has ls 2 [(0, va_rf ((some q))), (1, .int (y1))] → (∀ (H : Heap) (locs : List Loc) (ls : Array Slot), zc_W g w H locs → lv_has ls 2 [(0, va_rf ((some q)))] → W p l e zr_X10_image s m [va_rf ((some q))].toArray below meth c H locs 0 0 (zc_Q g below zr_X10_image (some (.int (res.2))) res.1 [va_rf ((some q))] s) (F0 m 120 ls [])) → W p l e zr_X10_image s m [va_rf ((some q))].toArray below meth c H locs 0 0 (zc_Q g below zr_X10_image (some (.int (res.2))) res.1 [va_rf ((some q))] s) (F0 m 96 ls []) := by
    intro n
    induction n with
    | zero =>
      intro h y1 w H locs ls hf
      cases hf
    | succ n ih =>
      intro h y1 w H locs ls hf hw hl  kk
      unfold zf_X10_image_L96 at hf
      refine lv_iload_n hx hb zd_X10_image_96 rfl (lv_at hl 1 rfl) ?_
      refine lv_bipush (v := 112) hx hb zd_X10_image_97 (by decide) ?_
      refine lv_icmp_ge (tgt := 120) hx hb zd_X10_image_99 (by decide) (fun c39 => ?_) (fun c39 => ?_)
      · replace hf := zo_t c39 hf
        have hres := Option.some.inj hf; subst hres
        exact kk _ _ _ hw (lv_sub hl [0] rfl)
      · replace hf := zo_f c39 hf
        refine zl_aload_n hx hb zd_X10_image_102 rfl (lv_at hl 0 rfl) ?_
        replace hf := zo_b hf; obtain ⟨v40, ev40, hf⟩ := hf
        obtain ⟨u41, u41e, u41v⟩ := zo_b ev40
        obtain rfl := zv_r_e u41v
        refine zw_get S hK hw zk_10 (k := 22) (by decide) rfl zm_1110 (Or.inl rfl) u41e zd_X10_image_103 ?_
        refine lv_iload_n hx hb zd_X10_image_106 rfl (lv_at hl 1 rfl) ?_
        refine zl_aload_n hx hb zd_X10_image_107 rfl (lv_at hl 0 rfl) ?_
        replace hf := zo_b hf; obtain ⟨v42, ev42, hf⟩ := hf
        obtain ⟨u43, u43e, u43v⟩ := zo_b ev42
        obtain rfl := zv_r_e u43v
        refine zw_get S hK hw zk_10 (k := 6) (by decide) rfl zm_1094 (Or.inl rfl) u43e zd_X10_image_108 ?_
        refine lv_iload_n hx hb zd_X10_image_111 rfl (lv_at hl 1 rfl) ?_
        replace hf := zo_b hf; obtain ⟨a44, na44, hf⟩ := hf
        refine W.eq (g2 := F0 m 112 ls [.int (y1), va_rf ((some a44)), .int (y1), va_rf (v40)]) (by rw [na44] <;> rfl) ?_
        replace hf := zo_b hf; obtain ⟨v45, ev45, hf⟩ := hf
        refine zw_iald S hK hw ev45 zd_X10_image_112 ?_
        replace hf := zo_b hf; obtain ⟨a46, na46, hf⟩ := hf
        refine W.eq (g2 := F0 m 113 ls [.int (v45), .int (y1), va_rf ((some a46))]) (by rw [na46] <;> rfl) ?_
        replace hf := zo_b hf; obtain ⟨h47, eh47, hf⟩ := hf
        refine zw_iast S hK hw eh47 zd_X10_image_113 (fun H locs hw => ?_)
        refine lv_iinc (i := 1) (v := (y1 + 1)) (lv' := [(1, .int ((y1 + 1))), (0, va_rf ((some q)))]) hx hb zd_X10_image_114 hl (k := 1) rfl (congrArg (_ + ·) (by decide)) (by decide) rfl (fun ls hl => ?_)
        refine lv_goto (tgt := 96) hx hb zd_X10_image_117 (by decide) ?_
        exact ih h47 (y1 + 1) _ _ _ _ hf hw (lv_sub hl [1, 0] rfl) kk
  have L122 : ∀  (n : Nat) (h : zc_H) (y1 : Int32) (w : zc_H) (H : Heap) (locs : List Loc) (ls : Array Slot), zf_X10_image_L122 q n h y1 = some w → zc_W g h H locs → lv_has ls 2 [(0, va_rf ((some q))), (1, .int (y1))] → (∀ (H : Heap) (locs : List Loc) (ls : Array Slot), zc_W g w H locs → lv_has ls 2 [(0, va_rf ((some q)))] → W p l e zr_X10_image s m [va_rf ((some q))].toArray below meth c H locs 0 0 (zc_Q g below zr_X10_image (some (.int (res.2))) res.1 [va_rf ((some q))] s) (F0 m 145 ls [])) → W p l e zr_X10_image s m [va_rf ((some q))].toArray below meth c H locs 0 0 (zc_Q g below zr_X10_image (some (.int (res.2))) res.1 [va_rf ((some q))] s) (F0 m 122 ls []) := by
    intro n
    induction n with
    | zero =>
      intro h y1 w H locs ls hf
      cases hf
    | succ n ih =>
      intro h y1 w H locs ls hf hw hl  kk
      unfold zf_X10_image_L122 at hf
      refine lv_iload_n hx hb zd_X10_image_122 rfl (lv_at hl 1 rfl) ?_
      refine lv_iconst (v := 3) hx hb zd_X10_image_123 (by decide) ?_
      refine lv_icmp_ge (tgt := 145) hx hb zd_X10_image_124 (by decide) (fun c49 => ?_) (fun c49 => ?_)
      · replace hf := zo_t c49 hf
        have hres := Option.some.inj hf; subst hres
        exact kk _ _ _ hw (lv_sub hl [0] rfl)
      · replace hf := zo_f c49 hf
        refine zl_aload_n hx hb zd_X10_image_127 rfl (lv_at hl 0 rfl) ?_
        replace hf := zo_b hf; obtain ⟨v50, ev50, hf⟩ := hf
        obtain ⟨u51, u51e, u51v⟩ := zo_b ev50
        obtain rfl := zv_r_e u51v
        refine zw_get S hK hw zk_10 (k := 23) (by decide) rfl zm_1111 (Or.inl rfl) u51e zd_X10_image_128 ?_
        refine lv_iload_n hx hb zd_X10_image_131 rfl (lv_at hl 1 rfl) ?_
        refine zl_aload_n hx hb zd_X10_image_132 rfl (lv_at hl 0 rfl) ?_
        replace hf := zo_b hf; obtain ⟨v52, ev52, hf⟩ := hf
        obtain ⟨u53, u53e, u53v⟩ := zo_b ev52
        obtain rfl := zv_r_e u53v
        refine zw_get S hK hw zk_10 (k := 7) (by decide) rfl zm_1095 (Or.inl rfl) u53e zd_X10_image_133 ?_
        refine lv_iload_n hx hb zd_X10_image_136 rfl (lv_at hl 1 rfl) ?_
        replace hf := zo_b hf; obtain ⟨a54, na54, hf⟩ := hf
        refine W.eq (g2 := F0 m 137 ls [.int (y1), va_rf ((some a54)), .int (y1), va_rf (v50)]) (by rw [na54] <;> rfl) ?_
        replace hf := zo_b hf; obtain ⟨v55, ev55, hf⟩ := hf
        refine zw_iald S hK hw ev55 zd_X10_image_137 ?_
        replace hf := zo_b hf; obtain ⟨a56, na56, hf⟩ := hf
        refine W.eq (g2 := F0 m 138 ls [.int (v55), .int (y1), va_rf ((some a56))]) (by rw [na56] <;> rfl) ?_
        replace hf := zo_b hf; obtain ⟨h57, eh57, hf⟩ := hf
        refine zw_iast S hK hw eh57 zd_X10_image_138 (fun H locs hw => ?_)
        refine lv_iinc (i := 1) (v := (y1 + 1)) (lv' := [(1, .int ((y1 + 1))), (0, va_rf ((some q)))]) hx hb zd_X10_image_139 hl (k := 1) rfl (congrArg (_ + ·) (by decide)) (by decide) rfl (fun ls hl => ?_)
        refine lv_goto (tgt := 122) hx hb zd_X10_image_142 (by decide) ?_
        exact ih h57 (y1 + 1) _ _ _ _ hf hw (lv_sub hl [1, 0] rfl) kk
  unfold zf_X10_image at hf
  obtain ⟨-, hf⟩ := zo_n hf
  refine zl_aload_n hx hb zd_X10_image_0 rfl (lv_at hl 0 rfl) ?_
  refine lv_iconst (v := 1) hx hb zd_X10_image_1 (by decide) ?_
  replace hf := zo_b hf; obtain ⟨h1, eh1, hf⟩ := hf
  refine zw_put S hK hw zk_10 (k := 16) (by decide) rfl zm_1104 (Or.inl rfl) eh1 (ty := .boolean) (by decide +kernel) rfl rfl zd_X10_image_2 (fun H locs hw => ?_)
  refine zl_aload_n hx hb zd_X10_image_5 rfl (lv_at hl 0 rfl) ?_
  refine zl_aload_n hx hb zd_X10_image_6 rfl (lv_at hl 0 rfl) ?_
  replace hf := zo_b hf; obtain ⟨v2, ev2, hf⟩ := hf
  obtain ⟨u3, u3e, u3v⟩ := zo_b ev2
  obtain rfl := zv_i_e u3v
  refine zw_get S hK hw zk_10 (k := 0) (by decide) rfl zm_1088 (Or.inl rfl) u3e zd_X10_image_7 ?_
  replace hf := zo_b hf; obtain ⟨h4, eh4, hf⟩ := hf
  refine zw_put S hK hw zk_10 (k := 17) (by decide) rfl zm_1105 (Or.inl rfl) eh4 (ty := .int) (by decide +kernel) rfl rfl zd_X10_image_10 (fun H locs hw => ?_)
  refine zl_aload_n hx hb zd_X10_image_13 rfl (lv_at hl 0 rfl) ?_
  refine zl_aload_n hx hb zd_X10_image_14 rfl (lv_at hl 0 rfl) ?_
  replace hf := zo_b hf; obtain ⟨v5, ev5, hf⟩ := hf
  obtain ⟨u6, u6e, u6v⟩ := zo_b ev5
  obtain rfl := zv_i_e u6v
  refine zw_get S hK hw zk_10 (k := 5) (by decide) rfl zm_1093 (Or.inl rfl) u6e zd_X10_image_15 ?_
  replace hf := zo_b hf; obtain ⟨h7, eh7, hf⟩ := hf
  refine zw_put S hK hw zk_10 (k := 21) (by decide) rfl zm_1109 (Or.inl rfl) eh7 (ty := .int) (by decide +kernel) rfl rfl zd_X10_image_18 (fun H locs hw => ?_)
  refine zl_aload_n hx hb zd_X10_image_21 rfl (lv_at hl 0 rfl) ?_
  refine zl_aload_n hx hb zd_X10_image_22 rfl (lv_at hl 0 rfl) ?_
  replace hf := zo_b hf; obtain ⟨v8, ev8, hf⟩ := hf
  obtain ⟨u9, u9e, u9v⟩ := zo_b ev8
  obtain rfl := zv_i_e u9v
  refine zw_get S hK hw zk_10 (k := 8) (by decide) rfl zm_1096 (Or.inl rfl) u9e zd_X10_image_23 ?_
  replace hf := zo_b hf; obtain ⟨h10, eh10, hf⟩ := hf
  refine zw_put S hK hw zk_10 (k := 24) (by decide) rfl zm_1112 (Or.inl rfl) eh10 (ty := .int) (by decide +kernel) rfl rfl zd_X10_image_26 (fun H locs hw => ?_)
  refine lv_iconst (v := 0) hx hb zd_X10_image_29 (by decide) ?_
  refine lv_istore_n (i := 1) (lv' := [(1, .int (0)), (0, va_rf ((some q)))]) hx hb zd_X10_image_30 rfl hl (by decide) rfl (fun ls hl => ?_)
  replace hf := zo_b hf; obtain ⟨w28, w28e, hf⟩ := hf
  refine L31  2000 h10 0 _ _ _ _ w28e hw (lv_sub hl [1, 0] rfl) (fun H locs ls hw hl => ?_)
  refine lv_iconst (v := 0) hx hb zd_X10_image_67 (by decide) ?_
  refine lv_istore_n (i := 1) (lv' := [(1, .int (0)), (0, va_rf ((some q)))]) hx hb zd_X10_image_68 rfl hl (by decide) rfl (fun ls hl => ?_)
  replace hf := zo_b hf; obtain ⟨w38, w38e, hf⟩ := hf
  refine L69  2000 w28 0 _ _ _ _ w38e hw (lv_sub hl [1, 0] rfl) (fun H locs ls hw hl => ?_)
  refine lv_iconst (v := 0) hx hb zd_X10_image_94 (by decide) ?_
  refine lv_istore_n (i := 1) (lv' := [(1, .int (0)), (0, va_rf ((some q)))]) hx hb zd_X10_image_95 rfl hl (by decide) rfl (fun ls hl => ?_)
  replace hf := zo_b hf; obtain ⟨w48, w48e, hf⟩ := hf
  refine L96  2000 w38 0 _ _ _ _ w48e hw (lv_sub hl [1, 0] rfl) (fun H locs ls hw hl => ?_)
  refine lv_iconst (v := 0) hx hb zd_X10_image_120 (by decide) ?_
  refine lv_istore_n (i := 1) (lv' := [(1, .int (0)), (0, va_rf ((some q)))]) hx hb zd_X10_image_121 rfl hl (by decide) rfl (fun ls hl => ?_)
  replace hf := zo_b hf; obtain ⟨w58, w58e, hf⟩ := hf
  refine L122  2000 w48 0 _ _ _ _ w58e hw (lv_sub hl [1, 0] rfl) (fun H locs ls hw hl => ?_)
  refine zl_aload_n hx hb zd_X10_image_145 rfl (lv_at hl 0 rfl) ?_
  replace hf := zo_b hf; obtain ⟨v59, ev59, hf⟩ := hf
  obtain ⟨u60, u60e, u60v⟩ := zo_b ev59
  obtain rfl := zv_i_e u60v
  refine zw_get S hK hw zk_10 (k := 5) (by decide) rfl zm_1093 (Or.inl rfl) u60e zd_X10_image_146 ?_
  have hres := Option.some.inj hf; subst hres
  exact zw_iret (v := v59) (ty := .int) hx hb hr hlk rfl hw zd_X10_image_149 (Nat.le_refl 0) (Nat.le_refl 0)
def zf_X10_restore_L40 (q : Nat) : Nat → zc_H → Int32 → Option (zc_H)
  | 0, _, _ => none
  | n + 1, h, y1 =>
    if 16 ≤ y1 then
      some h
    else
    (zf_gr h q 10 1).bind fun v14 =>
    (zf_gr h q 10 18).bind fun v16 =>
    v16.bind fun a18 =>
    (zf_ai h a18 0 y1).bind fun v19 =>
    v14.bind fun a20 =>
    (zf_si h a20 0 y1 v19).bind fun h21 =>
    (zf_gr h21 q 10 2).bind fun v22 =>
    (zf_gr h21 q 10 19).bind fun v24 =>
    v24.bind fun a26 =>
    (zf_ai h21 a26 0 y1).bind fun v27 =>
    v22.bind fun a28 =>
    (zf_si h21 a28 0 y1 v27).bind fun h29 =>
    zf_X10_restore_L40 q n h29 (y1 + 1)
def zf_X10_restore_L78 (q : Nat) : Nat → zc_H → Int32 → Option (zc_H)
  | 0, _, _ => none
  | n + 1, h, y1 =>
    if 384 ≤ y1 then
      some h
    else
    (zf_gr h q 10 3).bind fun v32 =>
    (zf_gr h q 10 20).bind fun v34 =>
    v34.bind fun a36 =>
    (zf_aj h a36 y1).bind fun v37 =>
    v32.bind fun a38 =>
    (zf_sj h a38 y1 v37).bind fun h39 =>
    zf_X10_restore_L78 q n h39 (y1 + 1)
def zf_X10_restore_L105 (q : Nat) : Nat → zc_H → Int32 → Option (zc_H)
  | 0, _, _ => none
  | n + 1, h, y1 =>
    if 112 ≤ y1 then
      some h
    else
    (zf_gr h q 10 6).bind fun v42 =>
    (zf_gr h q 10 22).bind fun v44 =>
    v44.bind fun a46 =>
    (zf_ai h a46 0 y1).bind fun v47 =>
    v42.bind fun a48 =>
    (zf_si h a48 0 y1 v47).bind fun h49 =>
    zf_X10_restore_L105 q n h49 (y1 + 1)
def zf_X10_restore_L131 (q : Nat) : Nat → zc_H → Int32 → Option (zc_H)
  | 0, _, _ => none
  | n + 1, h, y1 =>
    if 3 ≤ y1 then
      some h
    else
    (zf_gr h q 10 7).bind fun v52 =>
    (zf_gr h q 10 23).bind fun v54 =>
    v54.bind fun a56 =>
    (zf_ai h a56 0 y1).bind fun v57 =>
    v52.bind fun a58 =>
    (zf_si h a58 0 y1 v57).bind fun h59 =>
    zf_X10_restore_L131 q n h59 (y1 + 1)
def zf_X10_restore_L156 (q : Nat) : Nat → zc_H → Int32 → Option (zc_H)
  | 0, _, _ => none
  | n + 1, h, y1 =>
    (zf_gi h q 10 0).bind fun v61 =>
    if v61 ≤ y1 then
      some h
    else
    (zf_X10_learns h q y1).bind fun r64 =>
    zf_X10_restore_L156 q n r64 (y1 + 1)
def zf_X10_restore_L177 (q : Nat) : Nat → zc_H → Int32 → Option (zc_H)
  | 0, _, _ => none
  | n + 1, h, y1 =>
    if 8 ≤ y1 then
      some h
    else
    (zf_X10_isRow h q y1).bind fun r67 =>
    let k211 := fun (h211j : zc_H) =>
      zf_X10_restore_L177 q n h211j (y1 + 1)
    if r67 = 0 then
      (zf_gr h q 10 9).bind fun v69 =>
      v69.bind fun a71 =>
      (zf_ai h a71 0 y1).bind fun v72 =>
      (zf_gi h q 10 5).bind fun v73 =>
      if v72 < v73 then
        k211 h
      else
      (zf_gr h q 10 9).bind fun v76 =>
      v76.bind fun a78 =>
      (zf_si h a78 0 y1 (-1)).bind fun h79 =>
      k211 h79
    else
    k211 h
def zf_X10_restore (h : zc_H) (q : Nat) : Option (zc_H × Int32) :=
  if ¬ zf_is h q 10 = true then none else
  (zf_gi h q 10 16).bind fun v1 =>
  if v1 = 0 then
    (zf_X10_no h q (-6)).bind fun r83 =>
    some (r83.1, r83.2)
  else
  (zf_gi h q 10 17).bind fun v4 =>
  (zf_p h q 10 0 (.int (v4))).bind fun h6 =>
  (zf_gi h6 q 10 21).bind fun v7 =>
  (zf_p h6 q 10 5 (.int (v7))).bind fun h9 =>
  (zf_gi h9 q 10 24).bind fun v10 =>
  (zf_p h9 q 10 8 (.int (v10))).bind fun h12 =>
  (zf_X10_restore_L40 q 2000 h12 0).bind fun w30 =>
  (zf_X10_restore_L78 q 2000 w30 0).bind fun w40 =>
  (zf_X10_restore_L105 q 2000 w40 0).bind fun w50 =>
  (zf_X10_restore_L131 q 2000 w50 0).bind fun w60 =>
  (zf_X10_restore_L156 q 2000 w60 0).bind fun w65 =>
  (zf_X10_restore_L177 q 2000 w65 0).bind fun w80 =>
  (zf_gi w80 q 10 5).bind fun v81 =>
  some (w80, v81)
abbrev zr_X10_restore : Room := { frames := 5, cells := 0, slots := 0, locals := 122 }
theorem zi_X10_restore {h : zc_H} {q : Nat} {res : zc_H × Int32} (hf : zf_X10_restore h q = some res) : zf_is h q 10 = true := Decidable.not_not.mp (zo_n hf).1
set_option maxHeartbeats 4000000 in
set_option maxRecDepth 20000 in
theorem zt_X10_restore (l : Launch) (g : zc_G) (h : zc_H) (q : Nat) (res : zc_H × Int32) (hf : zf_X10_restore h q = some res) : zc_M l g yX10_restore cX10_restore 2 (some .int) zr_X10_restore h [va_rf ((some q))] res.1 (some (.int (res.2))) := by
  refine zc_M.of (by decide) (by simp [lg_sl, zv_cat, zv_ci, zv_cj]) ?_
  intro p e s m below meth c ls S hK hw hr hlk hnm hl
  replace S : CallFix p m c cX10_restore 2 s [va_rf ((some q))].toArray (zc_ws yX10_restore cX10_restore 2 (some .int)) RX10 := S
  have hx := S.1
  have hb := S.2.1
  replace hl : lv_has ls 2 [(0, va_rf ((some q)))] := by simpa [lv_args, zv_cat, zv_ci, zv_cj] using hl
  generalize s.heap = H at hw ⊢
  obtain ⟨locs, hlocs⟩ : ∃ L : List Loc, L = [] := ⟨_, rfl⟩
  rw [← hlocs] at hw ⊢
  have L40 : ∀  (n : Nat) (h : zc_H) (y1 : Int32) (w : zc_H) (H : Heap) (locs : List Loc) (ls : Array Slot), zf_X10_restore_L40 q n h y1 = some w → zc_W g h H locs → lv_has ls 2 [(0, va_rf ((some q))), (1, .int (y1))] → (∀ (H : Heap) (locs : List Loc) (ls : Array Slot), zc_W g w H locs → lv_has ls 2 [(0, va_rf ((some q)))] → W p l e zr_X10_restore s m [va_rf ((some q))].toArray below meth c H locs 0 0 (zc_Q g below zr_X10_restore (some (.int (res.2))) res.1 [va_rf ((some q))] s) (F0 m 76 ls [])) → W p l e zr_X10_restore s m [va_rf ((some q))].toArray below meth c H locs 0 0 (zc_Q g below zr_X10_restore (some (.int (res.2))) res.1 [va_rf ((some q))] s) (F0 m 40 ls []) := by
    intro n
    induction n with
    | zero =>
      intro h y1 w H locs ls hf
      cases hf
    | succ n ih =>
      intro h y1 w H locs ls hf hw hl  kk
      unfold zf_X10_restore_L40 at hf
      refine lv_iload_n hx hb zd_X10_restore_40 rfl (lv_at hl 1 rfl) ?_
      refine lv_bipush (v := 16) hx hb zd_X10_restore_41 (by decide) ?_
      refine lv_icmp_ge (tgt := 76) hx hb zd_X10_restore_43 (by decide) (fun c13 => ?_) (fun c13 => ?_)
      · replace hf := zo_t c13 hf
        have hres := Option.some.inj hf; subst hres
        exact kk _ _ _ hw (lv_sub hl [0] rfl)
      · replace hf := zo_f c13 hf
        refine zl_aload_n hx hb zd_X10_restore_46 rfl (lv_at hl 0 rfl) ?_
        replace hf := zo_b hf; obtain ⟨v14, ev14, hf⟩ := hf
        obtain ⟨u15, u15e, u15v⟩ := zo_b ev14
        obtain rfl := zv_r_e u15v
        refine zw_get S hK hw zk_10 (k := 1) (by decide) rfl zm_1089 (Or.inl rfl) u15e zd_X10_restore_47 ?_
        refine lv_iload_n hx hb zd_X10_restore_50 rfl (lv_at hl 1 rfl) ?_
        refine zl_aload_n hx hb zd_X10_restore_51 rfl (lv_at hl 0 rfl) ?_
        replace hf := zo_b hf; obtain ⟨v16, ev16, hf⟩ := hf
        obtain ⟨u17, u17e, u17v⟩ := zo_b ev16
        obtain rfl := zv_r_e u17v
        refine zw_get S hK hw zk_10 (k := 18) (by decide) rfl zm_1106 (Or.inl rfl) u17e zd_X10_restore_52 ?_
        refine lv_iload_n hx hb zd_X10_restore_55 rfl (lv_at hl 1 rfl) ?_
        replace hf := zo_b hf; obtain ⟨a18, na18, hf⟩ := hf
        refine W.eq (g2 := F0 m 56 ls [.int (y1), va_rf ((some a18)), .int (y1), va_rf (v14)]) (by rw [na18] <;> rfl) ?_
        replace hf := zo_b hf; obtain ⟨v19, ev19, hf⟩ := hf
        refine zw_iald S hK hw ev19 zd_X10_restore_56 ?_
        replace hf := zo_b hf; obtain ⟨a20, na20, hf⟩ := hf
        refine W.eq (g2 := F0 m 57 ls [.int (v19), .int (y1), va_rf ((some a20))]) (by rw [na20] <;> rfl) ?_
        replace hf := zo_b hf; obtain ⟨h21, eh21, hf⟩ := hf
        refine zw_iast S hK hw eh21 zd_X10_restore_57 (fun H locs hw => ?_)
        refine zl_aload_n hx hb zd_X10_restore_58 rfl (lv_at hl 0 rfl) ?_
        replace hf := zo_b hf; obtain ⟨v22, ev22, hf⟩ := hf
        obtain ⟨u23, u23e, u23v⟩ := zo_b ev22
        obtain rfl := zv_r_e u23v
        refine zw_get S hK hw zk_10 (k := 2) (by decide) rfl zm_1090 (Or.inl rfl) u23e zd_X10_restore_59 ?_
        refine lv_iload_n hx hb zd_X10_restore_62 rfl (lv_at hl 1 rfl) ?_
        refine zl_aload_n hx hb zd_X10_restore_63 rfl (lv_at hl 0 rfl) ?_
        replace hf := zo_b hf; obtain ⟨v24, ev24, hf⟩ := hf
        obtain ⟨u25, u25e, u25v⟩ := zo_b ev24
        obtain rfl := zv_r_e u25v
        refine zw_get S hK hw zk_10 (k := 19) (by decide) rfl zm_1107 (Or.inl rfl) u25e zd_X10_restore_64 ?_
        refine lv_iload_n hx hb zd_X10_restore_67 rfl (lv_at hl 1 rfl) ?_
        replace hf := zo_b hf; obtain ⟨a26, na26, hf⟩ := hf
        refine W.eq (g2 := F0 m 68 ls [.int (y1), va_rf ((some a26)), .int (y1), va_rf (v22)]) (by rw [na26] <;> rfl) ?_
        replace hf := zo_b hf; obtain ⟨v27, ev27, hf⟩ := hf
        refine zw_iald S hK hw ev27 zd_X10_restore_68 ?_
        replace hf := zo_b hf; obtain ⟨a28, na28, hf⟩ := hf
        refine W.eq (g2 := F0 m 69 ls [.int (v27), .int (y1), va_rf ((some a28))]) (by rw [na28] <;> rfl) ?_
        replace hf := zo_b hf; obtain ⟨h29, eh29, hf⟩ := hf
        refine zw_iast S hK hw eh29 zd_X10_restore_69 (fun H locs hw => ?_)
        refine lv_iinc (i := 1) (v := (y1 + 1)) (lv' := [(1, .int ((y1 + 1))), (0, va_rf ((some q)))]) hx hb zd_X10_restore_70 hl (k := 1) rfl (congrArg (_ + ·) (by decide)) (by decide) rfl (fun ls hl => ?_)
        refine lv_goto (tgt := 40) hx hb zd_X10_restore_73 (by decide) ?_
        exact ih h29 (y1 + 1) _ _ _ _ hf hw (lv_sub hl [1, 0] rfl) kk
  have L78 : ∀  (n : Nat) (h : zc_H) (y1 : Int32) (w : zc_H) (H : Heap) (locs : List Loc) (ls : Array Slot), zf_X10_restore_L78 q n h y1 = some w → zc_W g h H locs → lv_has ls 2 [(0, va_rf ((some q))), (1, .int (y1))] → (∀ (H : Heap) (locs : List Loc) (ls : Array Slot), zc_W g w H locs → lv_has ls 2 [(0, va_rf ((some q)))] → W p l e zr_X10_restore s m [va_rf ((some q))].toArray below meth c H locs 0 0 (zc_Q g below zr_X10_restore (some (.int (res.2))) res.1 [va_rf ((some q))] s) (F0 m 103 ls [])) → W p l e zr_X10_restore s m [va_rf ((some q))].toArray below meth c H locs 0 0 (zc_Q g below zr_X10_restore (some (.int (res.2))) res.1 [va_rf ((some q))] s) (F0 m 78 ls []) := by
    intro n
    induction n with
    | zero =>
      intro h y1 w H locs ls hf
      cases hf
    | succ n ih =>
      intro h y1 w H locs ls hf hw hl  kk
      unfold zf_X10_restore_L78 at hf
      refine lv_iload_n hx hb zd_X10_restore_78 rfl (lv_at hl 1 rfl) ?_
      refine lv_sipush (v := 384) hx hb zd_X10_restore_79 (by decide) ?_
      refine lv_icmp_ge (tgt := 103) hx hb zd_X10_restore_82 (by decide) (fun c31 => ?_) (fun c31 => ?_)
      · replace hf := zo_t c31 hf
        have hres := Option.some.inj hf; subst hres
        exact kk _ _ _ hw (lv_sub hl [0] rfl)
      · replace hf := zo_f c31 hf
        refine zl_aload_n hx hb zd_X10_restore_85 rfl (lv_at hl 0 rfl) ?_
        replace hf := zo_b hf; obtain ⟨v32, ev32, hf⟩ := hf
        obtain ⟨u33, u33e, u33v⟩ := zo_b ev32
        obtain rfl := zv_r_e u33v
        refine zw_get S hK hw zk_10 (k := 3) (by decide) rfl zm_1091 (Or.inl rfl) u33e zd_X10_restore_86 ?_
        refine lv_iload_n hx hb zd_X10_restore_89 rfl (lv_at hl 1 rfl) ?_
        refine zl_aload_n hx hb zd_X10_restore_90 rfl (lv_at hl 0 rfl) ?_
        replace hf := zo_b hf; obtain ⟨v34, ev34, hf⟩ := hf
        obtain ⟨u35, u35e, u35v⟩ := zo_b ev34
        obtain rfl := zv_r_e u35v
        refine zw_get S hK hw zk_10 (k := 20) (by decide) rfl zm_1108 (Or.inl rfl) u35e zd_X10_restore_91 ?_
        refine lv_iload_n hx hb zd_X10_restore_94 rfl (lv_at hl 1 rfl) ?_
        replace hf := zo_b hf; obtain ⟨a36, na36, hf⟩ := hf
        refine W.eq (g2 := F0 m 95 ls [.int (y1), va_rf ((some a36)), .int (y1), va_rf (v32)]) (by rw [na36] <;> rfl) ?_
        replace hf := zo_b hf; obtain ⟨v37, ev37, hf⟩ := hf
        refine zw_lald S hK hw ev37 zd_X10_restore_95 ?_
        replace hf := zo_b hf; obtain ⟨a38, na38, hf⟩ := hf
        refine W.eq (g2 := F0 m 96 ls [.long (v37), .int (y1), va_rf ((some a38))]) (by rw [na38] <;> rfl) ?_
        replace hf := zo_b hf; obtain ⟨h39, eh39, hf⟩ := hf
        refine zw_last S hK hw eh39 zd_X10_restore_96 (fun H locs hw => ?_)
        refine lv_iinc (i := 1) (v := (y1 + 1)) (lv' := [(1, .int ((y1 + 1))), (0, va_rf ((some q)))]) hx hb zd_X10_restore_97 hl (k := 1) rfl (congrArg (_ + ·) (by decide)) (by decide) rfl (fun ls hl => ?_)
        refine lv_goto (tgt := 78) hx hb zd_X10_restore_100 (by decide) ?_
        exact ih h39 (y1 + 1) _ _ _ _ hf hw (lv_sub hl [1, 0] rfl) kk
  have L105 : ∀  (n : Nat) (h : zc_H) (y1 : Int32) (w : zc_H) (H : Heap) (locs : List Loc) (ls : Array Slot), zf_X10_restore_L105 q n h y1 = some w → zc_W g h H locs → lv_has ls 2 [(0, va_rf ((some q))), (1, .int (y1))] → (∀ (H : Heap) (locs : List Loc) (ls : Array Slot), zc_W g w H locs → lv_has ls 2 [(0, va_rf ((some q)))] → W p l e zr_X10_restore s m [va_rf ((some q))].toArray below meth c H locs 0 0 (zc_Q g below zr_X10_restore (some (.int (res.2))) res.1 [va_rf ((some q))] s) (F0 m 129 ls [])) → W p l e zr_X10_restore s m [va_rf ((some q))].toArray below meth c H locs 0 0 (zc_Q g below zr_X10_restore (some (.int (res.2))) res.1 [va_rf ((some q))] s) (F0 m 105 ls []) := by
    intro n
    induction n with
    | zero =>
      intro h y1 w H locs ls hf
      cases hf
    | succ n ih =>
      intro h y1 w H locs ls hf hw hl  kk
      unfold zf_X10_restore_L105 at hf
      refine lv_iload_n hx hb zd_X10_restore_105 rfl (lv_at hl 1 rfl) ?_
      refine lv_bipush (v := 112) hx hb zd_X10_restore_106 (by decide) ?_
      refine lv_icmp_ge (tgt := 129) hx hb zd_X10_restore_108 (by decide) (fun c41 => ?_) (fun c41 => ?_)
      · replace hf := zo_t c41 hf
        have hres := Option.some.inj hf; subst hres
        exact kk _ _ _ hw (lv_sub hl [0] rfl)
      · replace hf := zo_f c41 hf
        refine zl_aload_n hx hb zd_X10_restore_111 rfl (lv_at hl 0 rfl) ?_
        replace hf := zo_b hf; obtain ⟨v42, ev42, hf⟩ := hf
        obtain ⟨u43, u43e, u43v⟩ := zo_b ev42
        obtain rfl := zv_r_e u43v
        refine zw_get S hK hw zk_10 (k := 6) (by decide) rfl zm_1094 (Or.inl rfl) u43e zd_X10_restore_112 ?_
        refine lv_iload_n hx hb zd_X10_restore_115 rfl (lv_at hl 1 rfl) ?_
        refine zl_aload_n hx hb zd_X10_restore_116 rfl (lv_at hl 0 rfl) ?_
        replace hf := zo_b hf; obtain ⟨v44, ev44, hf⟩ := hf
        obtain ⟨u45, u45e, u45v⟩ := zo_b ev44
        obtain rfl := zv_r_e u45v
        refine zw_get S hK hw zk_10 (k := 22) (by decide) rfl zm_1110 (Or.inl rfl) u45e zd_X10_restore_117 ?_
        refine lv_iload_n hx hb zd_X10_restore_120 rfl (lv_at hl 1 rfl) ?_
        replace hf := zo_b hf; obtain ⟨a46, na46, hf⟩ := hf
        refine W.eq (g2 := F0 m 121 ls [.int (y1), va_rf ((some a46)), .int (y1), va_rf (v42)]) (by rw [na46] <;> rfl) ?_
        replace hf := zo_b hf; obtain ⟨v47, ev47, hf⟩ := hf
        refine zw_iald S hK hw ev47 zd_X10_restore_121 ?_
        replace hf := zo_b hf; obtain ⟨a48, na48, hf⟩ := hf
        refine W.eq (g2 := F0 m 122 ls [.int (v47), .int (y1), va_rf ((some a48))]) (by rw [na48] <;> rfl) ?_
        replace hf := zo_b hf; obtain ⟨h49, eh49, hf⟩ := hf
        refine zw_iast S hK hw eh49 zd_X10_restore_122 (fun H locs hw => ?_)
        refine lv_iinc (i := 1) (v := (y1 + 1)) (lv' := [(1, .int ((y1 + 1))), (0, va_rf ((some q)))]) hx hb zd_X10_restore_123 hl (k := 1) rfl (congrArg (_ + ·) (by decide)) (by decide) rfl (fun ls hl => ?_)
        refine lv_goto (tgt := 105) hx hb zd_X10_restore_126 (by decide) ?_
        exact ih h49 (y1 + 1) _ _ _ _ hf hw (lv_sub hl [1, 0] rfl) kk
  have L131 : ∀  (n : Nat) (h : zc_H) (y1 : Int32) (w : zc_H) (H : Heap) (locs : List Loc) (ls : Array Slot), zf_X10_restore_L131 q n h y1 = some w → zc_W g h H locs → lv_has ls 2 [(0, va_rf ((some q))), (1, .int (y1))] → (∀ (H : Heap) (locs : List Loc) (ls : Array Slot), zc_W g w H locs → lv_has ls 2 [(0, va_rf ((some q)))] → W p l e zr_X10_restore s m [va_rf ((some q))].toArray below meth c H locs 0 0 (zc_Q g below zr_X10_restore (some (.int (res.2))) res.1 [va_rf ((some q))] s) (F0 m 154 ls [])) → W p l e zr_X10_restore s m [va_rf ((some q))].toArray below meth c H locs 0 0 (zc_Q g below zr_X10_restore (some (.int (res.2))) res.1 [va_rf ((some q))] s) (F0 m 131 ls []) := by
    intro n
    induction n with
    | zero =>
      intro h y1 w H locs ls hf
      cases hf
    | succ n ih =>
      intro h y1 w H locs ls hf hw hl  kk
      unfold zf_X10_restore_L131 at hf
      refine lv_iload_n hx hb zd_X10_restore_131 rfl (lv_at hl 1 rfl) ?_
      refine lv_iconst (v := 3) hx hb zd_X10_restore_132 (by decide) ?_
      refine lv_icmp_ge (tgt := 154) hx hb zd_X10_restore_133 (by decide) (fun c51 => ?_) (fun c51 => ?_)
      · replace hf := zo_t c51 hf
        have hres := Option.some.inj hf; subst hres
        exact kk _ _ _ hw (lv_sub hl [0] rfl)
      · replace hf := zo_f c51 hf
        refine zl_aload_n hx hb zd_X10_restore_136 rfl (lv_at hl 0 rfl) ?_
        replace hf := zo_b hf; obtain ⟨v52, ev52, hf⟩ := hf
        obtain ⟨u53, u53e, u53v⟩ := zo_b ev52
        obtain rfl := zv_r_e u53v
        refine zw_get S hK hw zk_10 (k := 7) (by decide) rfl zm_1095 (Or.inl rfl) u53e zd_X10_restore_137 ?_
        refine lv_iload_n hx hb zd_X10_restore_140 rfl (lv_at hl 1 rfl) ?_
        refine zl_aload_n hx hb zd_X10_restore_141 rfl (lv_at hl 0 rfl) ?_
        replace hf := zo_b hf; obtain ⟨v54, ev54, hf⟩ := hf
        obtain ⟨u55, u55e, u55v⟩ := zo_b ev54
        obtain rfl := zv_r_e u55v
        refine zw_get S hK hw zk_10 (k := 23) (by decide) rfl zm_1111 (Or.inl rfl) u55e zd_X10_restore_142 ?_
        refine lv_iload_n hx hb zd_X10_restore_145 rfl (lv_at hl 1 rfl) ?_
        replace hf := zo_b hf; obtain ⟨a56, na56, hf⟩ := hf
        refine W.eq (g2 := F0 m 146 ls [.int (y1), va_rf ((some a56)), .int (y1), va_rf (v52)]) (by rw [na56] <;> rfl) ?_
        replace hf := zo_b hf; obtain ⟨v57, ev57, hf⟩ := hf
        refine zw_iald S hK hw ev57 zd_X10_restore_146 ?_
        replace hf := zo_b hf; obtain ⟨a58, na58, hf⟩ := hf
        refine W.eq (g2 := F0 m 147 ls [.int (v57), .int (y1), va_rf ((some a58))]) (by rw [na58] <;> rfl) ?_
        replace hf := zo_b hf; obtain ⟨h59, eh59, hf⟩ := hf
        refine zw_iast S hK hw eh59 zd_X10_restore_147 (fun H locs hw => ?_)
        refine lv_iinc (i := 1) (v := (y1 + 1)) (lv' := [(1, .int ((y1 + 1))), (0, va_rf ((some q)))]) hx hb zd_X10_restore_148 hl (k := 1) rfl (congrArg (_ + ·) (by decide)) (by decide) rfl (fun ls hl => ?_)
        refine lv_goto (tgt := 131) hx hb zd_X10_restore_151 (by decide) ?_
        exact ih h59 (y1 + 1) _ _ _ _ hf hw (lv_sub hl [1, 0] rfl) kk
  have L156 : ∀  (n : Nat) (h : zc_H) (y1 : Int32) (w : zc_H) (H : Heap) (locs : List Loc) (ls : Array Slot), zf_X10_restore_L156 q n h y1 = some w → zc_W g h H locs → lv_has ls 2 [(0, va_rf ((some q))), (1, .int (y1))] → (∀ (H : Heap) (locs : List Loc) (ls : Array Slot), zc_W g w H locs → lv_has ls 2 [(0, va_rf ((some q)))] → W p l e zr_X10_restore s m [va_rf ((some q))].toArray below meth c H locs 0 0 (zc_Q g below zr_X10_restore (some (.int (res.2))) res.1 [va_rf ((some q))] s) (F0 m 175 ls [])) → W p l e zr_X10_restore s m [va_rf ((some q))].toArray below meth c H locs 0 0 (zc_Q g below zr_X10_restore (some (.int (res.2))) res.1 [va_rf ((some q))] s) (F0 m 156 ls []) := by
    intro n
    induction n with
    | zero =>
      intro h y1 w H locs ls hf
      cases hf
    | succ n ih =>
      intro h y1 w H locs ls hf hw hl  kk
      unfold zf_X10_restore_L156 at hf
      refine lv_iload_n hx hb zd_X10_restore_156 rfl (lv_at hl 1 rfl) ?_
      refine zl_aload_n hx hb zd_X10_restore_157 rfl (lv_at hl 0 rfl) ?_
      replace hf := zo_b hf; obtain ⟨v61, ev61, hf⟩ := hf
      obtain ⟨u62, u62e, u62v⟩ := zo_b ev61
      obtain rfl := zv_i_e u62v
      refine zw_get S hK hw zk_10 (k := 0) (by decide) rfl zm_1088 (Or.inl rfl) u62e zd_X10_restore_158 ?_
      refine lv_icmp_ge (tgt := 175) hx hb zd_X10_restore_161 (by decide) (fun c63 => ?_) (fun c63 => ?_)
      · replace hf := zo_t c63 hf
        have hres := Option.some.inj hf; subst hres
        exact kk _ _ _ hw (lv_sub hl [0] rfl)
      · replace hf := zo_f c63 hf
        refine zl_aload_n hx hb zd_X10_restore_164 rfl (lv_at hl 0 rfl) ?_
        refine lv_iload_n hx hb zd_X10_restore_165 rfl (lv_at hl 1 rfl) ?_
        replace hf := zo_b hf; obtain ⟨r64, er64, hf⟩ := hf
        refine zw_callV (n := 1) (ci := 10) (q := zc_cl[10]) (As := [.int (y1)]) (rest := []) S hK hw (zt_X10_learns l g h q y1 _ er64) zm_1289 zm_1291 zm_33 zq_X10_learns zm_79 (by decide +kernel) ⟨Nat.le_of_ble_eq_true rfl, Nat.le_of_ble_eq_true rfl⟩ rfl rfl rfl (zi_X10_learns er64) hl.1 rfl (by simp [zv_cat, zv_ci, zv_cj]) zd_X10_restore_166 ⟨(Nat.le_refl 0), (Nat.le_refl 0)⟩ (fun H locs hw => ?_)
        replace hw : zc_W g r64 H locs := hw
        refine lv_iinc (i := 1) (v := (y1 + 1)) (lv' := [(1, .int ((y1 + 1))), (0, va_rf ((some q)))]) hx hb zd_X10_restore_169 hl (k := 1) rfl (congrArg (_ + ·) (by decide)) (by decide) rfl (fun ls hl => ?_)
        refine lv_goto (tgt := 156) hx hb zd_X10_restore_172 (by decide) ?_
        exact ih r64 (y1 + 1) _ _ _ _ hf hw (lv_sub hl [1, 0] rfl) kk
  have L177 : ∀  (n : Nat) (h : zc_H) (y1 : Int32) (w : zc_H) (H : Heap) (locs : List Loc) (ls : Array Slot), zf_X10_restore_L177 q n h y1 = some w → zc_W g h H locs → lv_has ls 2 [(0, va_rf ((some q))), (1, .int (y1))] → (∀ (H : Heap) (locs : List Loc) (ls : Array Slot), zc_W g w H locs → lv_has ls 2 [(0, va_rf ((some q)))] → W p l e zr_X10_restore s m [va_rf ((some q))].toArray below meth c H locs 0 0 (zc_Q g below zr_X10_restore (some (.int (res.2))) res.1 [va_rf ((some q))] s) (F0 m 217 ls [])) → W p l e zr_X10_restore s m [va_rf ((some q))].toArray below meth c H locs 0 0 (zc_Q g below zr_X10_restore (some (.int (res.2))) res.1 [va_rf ((some q))] s) (F0 m 177 ls []) := by
    intro n
    induction n with
    | zero =>
      intro h y1 w H locs ls hf
      cases hf
    | succ n ih =>
      intro h y1 w H locs ls hf hw hl  kk
      unfold zf_X10_restore_L177 at hf
      refine lv_iload_n hx hb zd_X10_restore_177 rfl (lv_at hl 1 rfl) ?_
      refine lv_bipush (v := 8) hx hb zd_X10_restore_178 (by decide) ?_
      refine lv_icmp_ge (tgt := 217) hx hb zd_X10_restore_180 (by decide) (fun c66 => ?_) (fun c66 => ?_)
      · replace hf := zo_t c66 hf
        have hres := Option.some.inj hf; subst hres
        exact kk _ _ _ hw (lv_sub hl [0] rfl)
      · replace hf := zo_f c66 hf
        refine zl_aload_n hx hb zd_X10_restore_183 rfl (lv_at hl 0 rfl) ?_
        refine lv_iload_n hx hb zd_X10_restore_184 rfl (lv_at hl 1 rfl) ?_
        replace hf := zo_b hf; obtain ⟨r67, er67, hf⟩ := hf
        refine zw_callV (n := 1) (ci := 10) (q := zc_cl[10]) (As := [.int (y1)]) (rest := []) S hK hw (zt_X10_isRow l g h q y1 _ er67) zm_1231 zm_1233 zm_26 zq_X10_isRow zm_79 (by decide +kernel) ⟨Nat.le_of_ble_eq_true rfl, Nat.le_of_ble_eq_true rfl⟩ rfl rfl rfl (zi_X10_isRow er67) hl.1 rfl (by simp [zv_cat, zv_ci, zv_cj]) zd_X10_restore_185 ⟨(Nat.le_refl 0), (Nat.le_refl 0)⟩ (fun H locs hw => ?_)
        replace hw : zc_W g h H locs := hw
        have k211h : ∀ (h211j : zc_H) (H : Heap) (locs : List Loc) (ls : Array Slot), (
            zf_X10_restore_L177 q n h211j (y1 + 1)
            ) = some w → zc_W g h211j H locs → lv_has ls 2 [(0, va_rf ((some q))), (1, .int (y1))] → W p l e zr_X10_restore s m [va_rf ((some q))].toArray below meth c H locs (0 + 0) (0 + 0) (zc_Q g below zr_X10_restore (some (.int (res.2))) res.1 [va_rf ((some q))] s) (F0 m 211 ls []) := by
          intro h211j H locs ls hf hw hl
          refine lv_iinc (i := 1) (v := (y1 + 1)) (lv' := [(1, .int ((y1 + 1))), (0, va_rf ((some q)))]) hx hb zd_X10_restore_211 hl (k := 1) rfl (congrArg (_ + ·) (by decide)) (by decide) rfl (fun ls hl => ?_)
          refine lv_goto (tgt := 177) hx hb zd_X10_restore_214 (by decide) ?_
          exact ih h211j (y1 + 1) _ _ _ _ hf hw (lv_sub hl [1, 0] rfl) kk
        refine lv_if_ne (tgt := 211) hx hb zd_X10_restore_188 (by decide) (fun c68 => ?_) (fun c68 => ?_)
        · replace hf := zo_f c68 hf
          exact k211h h _ _ _ hf hw (lv_sub hl [0, 1] rfl)
        · replace hf := zo_t c68 hf
          refine zl_aload_n hx hb zd_X10_restore_191 rfl (lv_at hl 0 rfl) ?_
          replace hf := zo_b hf; obtain ⟨v69, ev69, hf⟩ := hf
          obtain ⟨u70, u70e, u70v⟩ := zo_b ev69
          obtain rfl := zv_r_e u70v
          refine zw_get S hK hw zk_10 (k := 9) (by decide) rfl zm_1097 (Or.inl rfl) u70e zd_X10_restore_192 ?_
          refine lv_iload_n hx hb zd_X10_restore_195 rfl (lv_at hl 1 rfl) ?_
          replace hf := zo_b hf; obtain ⟨a71, na71, hf⟩ := hf
          refine W.eq (g2 := F0 m 196 ls [.int (y1), va_rf ((some a71))]) (by rw [na71] <;> rfl) ?_
          replace hf := zo_b hf; obtain ⟨v72, ev72, hf⟩ := hf
          refine zw_iald S hK hw ev72 zd_X10_restore_196 ?_
          refine zl_aload_n hx hb zd_X10_restore_197 rfl (lv_at hl 0 rfl) ?_
          replace hf := zo_b hf; obtain ⟨v73, ev73, hf⟩ := hf
          obtain ⟨u74, u74e, u74v⟩ := zo_b ev73
          obtain rfl := zv_i_e u74v
          refine zw_get S hK hw zk_10 (k := 5) (by decide) rfl zm_1093 (Or.inl rfl) u74e zd_X10_restore_198 ?_
          refine lv_icmp_lt (tgt := 211) hx hb zd_X10_restore_201 (by decide) (fun c75 => ?_) (fun c75 => ?_)
          · replace hf := zo_t c75 hf
            exact k211h h _ _ _ hf hw (lv_sub hl [0, 1] rfl)
          · replace hf := zo_f c75 hf
            refine zl_aload_n hx hb zd_X10_restore_204 rfl (lv_at hl 0 rfl) ?_
            replace hf := zo_b hf; obtain ⟨v76, ev76, hf⟩ := hf
            obtain ⟨u77, u77e, u77v⟩ := zo_b ev76
            obtain rfl := zv_r_e u77v
            refine zw_get S hK hw zk_10 (k := 9) (by decide) rfl zm_1097 (Or.inl rfl) u77e zd_X10_restore_205 ?_
            refine lv_iload_n hx hb zd_X10_restore_208 rfl (lv_at hl 1 rfl) ?_
            refine lv_iconst (v := (-1)) hx hb zd_X10_restore_209 (by decide) ?_
            replace hf := zo_b hf; obtain ⟨a78, na78, hf⟩ := hf
            refine W.eq (g2 := F0 m 210 ls [.int ((-1)), .int (y1), va_rf ((some a78))]) (by rw [na78] <;> rfl) ?_
            replace hf := zo_b hf; obtain ⟨h79, eh79, hf⟩ := hf
            refine zw_iast S hK hw eh79 zd_X10_restore_210 (fun H locs hw => ?_)
            exact k211h h79 _ _ _ hf hw (lv_sub hl [0, 1] rfl)
  unfold zf_X10_restore at hf
  obtain ⟨-, hf⟩ := zo_n hf
  refine zl_aload_n hx hb zd_X10_restore_0 rfl (lv_at hl 0 rfl) ?_
  replace hf := zo_b hf; obtain ⟨v1, ev1, hf⟩ := hf
  obtain ⟨u2, u2e, u2v⟩ := zo_b ev1
  obtain rfl := zv_i_e u2v
  refine zw_get S hK hw zk_10 (k := 16) (by decide) rfl zm_1104 (Or.inl rfl) u2e zd_X10_restore_1 ?_
  refine lv_if_ne (tgt := 14) hx hb zd_X10_restore_4 (by decide) (fun c3 => ?_) (fun c3 => ?_)
  · replace hf := zo_f c3 hf
    refine zl_aload_n hx hb zd_X10_restore_14 rfl (lv_at hl 0 rfl) ?_
    refine zl_aload_n hx hb zd_X10_restore_15 rfl (lv_at hl 0 rfl) ?_
    replace hf := zo_b hf; obtain ⟨v4, ev4, hf⟩ := hf
    obtain ⟨u5, u5e, u5v⟩ := zo_b ev4
    obtain rfl := zv_i_e u5v
    refine zw_get S hK hw zk_10 (k := 17) (by decide) rfl zm_1105 (Or.inl rfl) u5e zd_X10_restore_16 ?_
    replace hf := zo_b hf; obtain ⟨h6, eh6, hf⟩ := hf
    refine zw_put S hK hw zk_10 (k := 0) (by decide) rfl zm_1088 (Or.inl rfl) eh6 (ty := .int) (by decide +kernel) rfl rfl zd_X10_restore_19 (fun H locs hw => ?_)
    refine zl_aload_n hx hb zd_X10_restore_22 rfl (lv_at hl 0 rfl) ?_
    refine zl_aload_n hx hb zd_X10_restore_23 rfl (lv_at hl 0 rfl) ?_
    replace hf := zo_b hf; obtain ⟨v7, ev7, hf⟩ := hf
    obtain ⟨u8, u8e, u8v⟩ := zo_b ev7
    obtain rfl := zv_i_e u8v
    refine zw_get S hK hw zk_10 (k := 21) (by decide) rfl zm_1109 (Or.inl rfl) u8e zd_X10_restore_24 ?_
    replace hf := zo_b hf; obtain ⟨h9, eh9, hf⟩ := hf
    refine zw_put S hK hw zk_10 (k := 5) (by decide) rfl zm_1093 (Or.inl rfl) eh9 (ty := .int) (by decide +kernel) rfl rfl zd_X10_restore_27 (fun H locs hw => ?_)
    refine zl_aload_n hx hb zd_X10_restore_30 rfl (lv_at hl 0 rfl) ?_
    refine zl_aload_n hx hb zd_X10_restore_31 rfl (lv_at hl 0 rfl) ?_
    replace hf := zo_b hf; obtain ⟨v10, ev10, hf⟩ := hf
    obtain ⟨u11, u11e, u11v⟩ := zo_b ev10
    obtain rfl := zv_i_e u11v
    refine zw_get S hK hw zk_10 (k := 24) (by decide) rfl zm_1112 (Or.inl rfl) u11e zd_X10_restore_32 ?_
    replace hf := zo_b hf; obtain ⟨h12, eh12, hf⟩ := hf
    refine zw_put S hK hw zk_10 (k := 8) (by decide) rfl zm_1096 (Or.inl rfl) eh12 (ty := .int) (by decide +kernel) rfl rfl zd_X10_restore_35 (fun H locs hw => ?_)
    refine lv_iconst (v := 0) hx hb zd_X10_restore_38 (by decide) ?_
    refine lv_istore_n (i := 1) (lv' := [(1, .int (0)), (0, va_rf ((some q)))]) hx hb zd_X10_restore_39 rfl hl (by decide) rfl (fun ls hl => ?_)
    replace hf := zo_b hf; obtain ⟨w30, w30e, hf⟩ := hf
    refine L40  2000 h12 0 _ _ _ _ w30e hw (lv_sub hl [1, 0] rfl) (fun H locs ls hw hl => ?_)
    refine lv_iconst (v := 0) hx hb zd_X10_restore_76 (by decide) ?_
    refine lv_istore_n (i := 1) (lv' := [(1, .int (0)), (0, va_rf ((some q)))]) hx hb zd_X10_restore_77 rfl hl (by decide) rfl (fun ls hl => ?_)
    replace hf := zo_b hf; obtain ⟨w40, w40e, hf⟩ := hf
    refine L78  2000 w30 0 _ _ _ _ w40e hw (lv_sub hl [1, 0] rfl) (fun H locs ls hw hl => ?_)
    refine lv_iconst (v := 0) hx hb zd_X10_restore_103 (by decide) ?_
    refine lv_istore_n (i := 1) (lv' := [(1, .int (0)), (0, va_rf ((some q)))]) hx hb zd_X10_restore_104 rfl hl (by decide) rfl (fun ls hl => ?_)
    replace hf := zo_b hf; obtain ⟨w50, w50e, hf⟩ := hf
    refine L105  2000 w40 0 _ _ _ _ w50e hw (lv_sub hl [1, 0] rfl) (fun H locs ls hw hl => ?_)
    refine lv_iconst (v := 0) hx hb zd_X10_restore_129 (by decide) ?_
    refine lv_istore_n (i := 1) (lv' := [(1, .int (0)), (0, va_rf ((some q)))]) hx hb zd_X10_restore_130 rfl hl (by decide) rfl (fun ls hl => ?_)
    replace hf := zo_b hf; obtain ⟨w60, w60e, hf⟩ := hf
    refine L131  2000 w50 0 _ _ _ _ w60e hw (lv_sub hl [1, 0] rfl) (fun H locs ls hw hl => ?_)
    refine lv_iconst (v := 0) hx hb zd_X10_restore_154 (by decide) ?_
    refine lv_istore_n (i := 1) (lv' := [(1, .int (0)), (0, va_rf ((some q)))]) hx hb zd_X10_restore_155 rfl hl (by decide) rfl (fun ls hl => ?_)
    replace hf := zo_b hf; obtain ⟨w65, w65e, hf⟩ := hf
    refine L156  2000 w60 0 _ _ _ _ w65e hw (lv_sub hl [1, 0] rfl) (fun H locs ls hw hl => ?_)
    refine lv_iconst (v := 0) hx hb zd_X10_restore_175 (by decide) ?_
    refine lv_istore_n (i := 1) (lv' := [(1, .int (0)), (0, va_rf ((some q)))]) hx hb zd_X10_restore_176 rfl hl (by decide) rfl (fun ls hl => ?_)
    replace hf := zo_b hf; obtain ⟨w80, w80e, hf⟩ := hf
    refine L177  2000 w65 0 _ _ _ _ w80e hw (lv_sub hl [1, 0] rfl) (fun H locs ls hw hl => ?_)
    refine zl_aload_n hx hb zd_X10_restore_217 rfl (lv_at hl 0 rfl) ?_
    replace hf := zo_b hf; obtain ⟨v81, ev81, hf⟩ := hf
    obtain ⟨u82, u82e, u82v⟩ := zo_b ev81
    obtain rfl := zv_i_e u82v
    refine zw_get S hK hw zk_10 (k := 5) (by decide) rfl zm_1093 (Or.inl rfl) u82e zd_X10_restore_218 ?_
    have hres := Option.some.inj hf; subst hres
    exact zw_iret (v := v81) (ty := .int) hx hb hr hlk rfl hw zd_X10_restore_221 (Nat.le_refl 0) (Nat.le_refl 0)
  · replace hf := zo_t c3 hf
    refine zl_aload_n hx hb zd_X10_restore_7 rfl (lv_at hl 0 rfl) ?_
    refine lv_bipush (v := (-6)) hx hb zd_X10_restore_8 (by decide) ?_
    replace hf := zo_b hf; obtain ⟨r83, er83, hf⟩ := hf
    refine zw_callV (n := 1) (ci := 10) (q := zc_cl[10]) (As := [.int ((-6))]) (rest := []) S hK hw (zt_X10_no l g h q (-6) _ er83) zm_1219 zm_1221 zm_24 zq_X10_no zm_79 (by decide +kernel) ⟨Nat.le_of_ble_eq_true rfl, Nat.le_of_ble_eq_true rfl⟩ rfl rfl rfl (zi_X10_no er83) hl.1 rfl (by simp [zv_cat, zv_ci, zv_cj]) zd_X10_restore_10 ⟨(Nat.le_refl 0), (Nat.le_refl 0)⟩ (fun H locs hw => ?_)
    replace hw : zc_W g r83.1 H locs := hw
    have hres := Option.some.inj hf; subst hres
    exact zw_iret (v := r83.2) (ty := .int) hx hb hr hlk rfl hw zd_X10_restore_13 (Nat.le_refl 0) (Nat.le_refl 0)
