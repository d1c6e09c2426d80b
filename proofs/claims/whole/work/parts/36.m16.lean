def zf_X9_former (h : zc_H) (q : Nat) (x1 : Int32) : Option (zc_H × Int32) :=
  if ¬ zf_is h q 9 = true then none else
  (zf_gr h q 9 1).bind fun v1 =>
  v1.bind fun a3 =>
  (zf_X6_revisionAt h a3 x1).bind fun r4 =>
  if r4 = none then
    (zf_X9_refuse h q (-11)).bind fun r15 =>
    some (r15.1, r15.2)
  else
  r4.bind fun a6 =>
  (zf_gr h a6 4 1).bind fun v7 =>
  if v7 = none then
    some (h, (-1))
  else
  (zf_gr h a6 4 1).bind fun v10 =>
  v10.bind fun a12 =>
  (zf_gi h a12 4 0).bind fun v13 =>
  some (h, v13)
abbrev zr_X9_former : Room := { frames := 4, cells := 0, slots := 0, locals := 85 }
theorem zi_X9_former {h : zc_H} {q : Nat} {x1 : Int32} {res : zc_H × Int32} (hf : zf_X9_former h q x1 = some res) : zf_is h q 9 = true := Decidable.not_not.mp (zo_n hf).1
set_option maxHeartbeats 4000000 in
set_option maxRecDepth 20000 in
theorem zt_X9_former (l : Launch) (g : zc_G) (h : zc_H) (q : Nat) (x1 : Int32) (res : zc_H × Int32) (hf : zf_X9_former h q x1 = some res) : zc_M l g yX9_former cX9_former 3 (some .int) zr_X9_former h [va_rf ((some q)), .int (x1)] res.1 (some (.int (res.2))) := by
  refine zc_M.of (by decide) (by simp [lg_sl, zv_cat, zv_ci, zv_cj]) ?_
  intro p e s m below meth c ls S hK hw hr hlk hnm hl
  replace S : CallFix p m c cX9_former 3 s [va_rf ((some q)), .int (x1)].toArray (zc_ws yX9_former cX9_former 3 (some .int)) RX9 := S
  have hx := S.1
  have hb := S.2.1
  replace hl : lv_has ls 3 [(0, va_rf ((some q))), (1, .int (x1))] := by simpa [lv_args, zv_cat, zv_ci, zv_cj] using hl
  generalize s.heap = H at hw ⊢
  obtain ⟨locs, hlocs⟩ : ∃ L : List Loc, L = [] := ⟨_, rfl⟩
  rw [← hlocs] at hw ⊢
  unfold zf_X9_former at hf
  obtain ⟨-, hf⟩ := zo_n hf
  refine zl_aload_n hx hb zd_X9_former_0 rfl (lv_at hl 0 rfl) ?_
  replace hf := zo_b hf; obtain ⟨v1, ev1, hf⟩ := hf
  obtain ⟨u2, u2e, u2v⟩ := zo_b ev1
  obtain rfl := zv_r_e u2v
  refine zw_get S hK hw zk_9 (k := 1) (by decide) rfl zm_308 (Or.inl rfl) u2e zd_X9_former_1 ?_
  refine lv_iload_n hx hb zd_X9_former_4 rfl (lv_at hl 1 rfl) ?_
  replace hf := zo_b hf; obtain ⟨a3, na3, hf⟩ := hf
  refine W.eq (g2 := F0 m 5 ls [.int (x1), va_rf ((some a3))]) (by rw [na3] <;> rfl) ?_
  replace hf := zo_b hf; obtain ⟨r4, er4, hf⟩ := hf
  refine zw_callV (n := 1) (ci := 6) (q := zc_cl[6]) (As := [.int (x1)]) (rest := []) S hK hw (zt_X6_revisionAt l g h a3 x1 _ er4) zm_482 zm_483 zm_484 zq_X6_revisionAt zm_69 (by decide +kernel) ⟨Nat.le_of_ble_eq_true rfl, Nat.le_of_ble_eq_true rfl⟩ rfl rfl rfl (zi_X6_revisionAt er4) hl.1 rfl (by simp [zv_cat, zv_ci, zv_cj]) zd_X9_former_5 ⟨(Nat.le_refl 0), (Nat.le_refl 0)⟩ (fun H locs hw => ?_)
  replace hw : zc_W g h H locs := hw
  refine zl_astore_n (i := 2) (lv' := [(2, va_rf (r4)), (0, va_rf ((some q))), (1, .int (x1))]) hx hb zd_X9_former_8 rfl hl (by decide) rfl (fun ls hl => ?_)
  refine zl_aload_n hx hb zd_X9_former_9 rfl (lv_at hl 0 rfl) ?_
  refine zl_ifnonnull (tgt := 20) hx hb zd_X9_former_10 (by decide) (fun c5 => ?_) (fun c5 => ?_)
  · replace hf := zo_f c5 hf
    refine zl_aload_n hx hb zd_X9_former_20 rfl (lv_at hl 0 rfl) ?_
    replace hf := zo_b hf; obtain ⟨a6, na6, hf⟩ := hf
    refine W.eq (g2 := F0 m 21 ls [va_rf ((some a6))]) (by rw [na6] <;> rfl) ?_
    replace hf := zo_b hf; obtain ⟨v7, ev7, hf⟩ := hf
    obtain ⟨u8, u8e, u8v⟩ := zo_b ev7
    obtain rfl := zv_r_e u8v
    refine zw_get S hK hw zk_4 (k := 1) (by decide) rfl zm_534 (Or.inl rfl) u8e zd_X9_former_21 ?_
    refine zl_ifnonnull (tgt := 31) hx hb zd_X9_former_24 (by decide) (fun c9 => ?_) (fun c9 => ?_)
    · replace hf := zo_f c9 hf
      refine zl_aload_n hx hb zd_X9_former_31 rfl (lv_at hl 0 rfl) ?_
      refine W.eq (g2 := F0 m 32 ls [va_rf ((some a6))]) (by rw [na6] <;> rfl) ?_
      replace hf := zo_b hf; obtain ⟨v10, ev10, hf⟩ := hf
      obtain ⟨u11, u11e, u11v⟩ := zo_b ev10
      obtain rfl := zv_r_e u11v
      refine zw_get S hK hw zk_4 (k := 1) (by decide) rfl zm_534 (Or.inl rfl) u11e zd_X9_former_32 ?_
      replace hf := zo_b hf; obtain ⟨a12, na12, hf⟩ := hf
      refine W.eq (g2 := F0 m 35 ls [va_rf ((some a12))]) (by rw [na12] <;> rfl) ?_
      replace hf := zo_b hf; obtain ⟨v13, ev13, hf⟩ := hf
      obtain ⟨u14, u14e, u14v⟩ := zo_b ev13
      obtain rfl := zv_i_e u14v
      refine zw_get S hK hw zk_4 (k := 0) (by decide) rfl zm_531 (Or.inl rfl) u14e zd_X9_former_35 ?_
      have hres := Option.some.inj hf; subst hres
      exact zw_iret (v := v13) (ty := .int) hx hb hr hlk rfl hw zd_X9_former_38 (Nat.le_refl 0) (Nat.le_refl 0)
    · replace hf := zo_t c9 hf
      refine lv_iconst (v := (-1)) hx hb zd_X9_former_27 (by decide) ?_
      refine lv_goto (tgt := 38) hx hb zd_X9_former_28 (by decide) ?_
      have hres := Option.some.inj hf; subst hres
      exact zw_iret (v := (-1)) (ty := .int) hx hb hr hlk rfl hw zd_X9_former_38 (Nat.le_refl 0) (Nat.le_refl 0)
  · replace hf := zo_t c5 hf
    refine zl_aload_n hx hb zd_X9_former_13 rfl (lv_at hl 1 rfl) ?_
    refine lv_bipush (v := (-11)) hx hb zd_X9_former_14 (by decide) ?_
    replace hf := zo_b hf; obtain ⟨r15, er15, hf⟩ := hf
    refine zw_callV (n := 1) (ci := 9) (q := zc_cl[9]) (As := [.int ((-11))]) (rest := []) S hK hw (zt_X9_refuse l g h q (-11) _ er15) zm_349 zm_351 zm_1 zq_X9_refuse zm_68 (by decide +kernel) ⟨Nat.le_of_ble_eq_true rfl, Nat.le_of_ble_eq_true rfl⟩ rfl rfl rfl (zi_X9_refuse er15) hl.1 rfl (by simp [zv_cat, zv_ci, zv_cj]) zd_X9_former_16 ⟨(Nat.le_refl 0), (Nat.le_refl 0)⟩ (fun H locs hw => ?_)
    replace hw : zc_W g r15.1 H locs := hw
    have hres := Option.some.inj hf; subst hres
    exact zw_iret (v := r15.2) (ty := .int) hx hb hr hlk rfl hw zd_X9_former_19 (Nat.le_refl 0) (Nat.le_refl 0)
def zf_X9_readySteps_L2 (q : Nat) : Nat → zc_H → Int32 → Option (zc_H)
  | 0, _, _ => none
  | n + 1, h, y1 =>
    (zf_gr h q 9 1).bind fun v1 =>
    v1.bind fun a3 =>
    (zf_gr h a3 6 0).bind fun v4 =>
    v4.bind fun a6 =>
    (zf_Jx4a65c_size_8abf5 h a6).bind fun r7 =>
    if r7 ≤ y1 then
      some h
    else
    (zf_gr h q 9 1).bind fun v9 =>
    v9.bind fun a11 =>
    (zf_gr h a11 6 0).bind fun v12 =>
    v12.bind fun a14 =>
    (zf_Jx4a65c_get_915e3 h a14 y1).bind fun r15 =>
    if ¬ zf_cc h r15 4 = true then none else
    (zf_gr h q 9 7).bind fun v17 =>
    (zf_gr h q 9 1).bind fun v19 =>
    v19.bind fun a21 =>
    (zf_gi h a21 6 3).bind fun v22 =>
    r15.bind fun a24 =>
    (zf_X4_readyStep h a24 v17 v22).bind fun r25 =>
    zf_X9_readySteps_L2 q n r25 (y1 + 1)
def zf_X9_readySteps (h : zc_H) (q : Nat) : Option (zc_H) :=
  if ¬ zf_is h q 9 = true then none else
  (zf_X9_readySteps_L2 q 2000 h 0).bind fun w26 =>
  some w26
abbrev zr_X9_readySteps : Room := { frames := 5, cells := 0, slots := 0, locals := 123 }
theorem zi_X9_readySteps {h : zc_H} {q : Nat} {res : zc_H} (hf : zf_X9_readySteps h q = some res) : zf_is h q 9 = true := Decidable.not_not.mp (zo_n hf).1
set_option maxHeartbeats 4000000 in
set_option maxRecDepth 20000 in
theorem zt_X9_readySteps (l : Launch) (g : zc_G) (h : zc_H) (q : Nat) (res : zc_H) (hf : zf_X9_readySteps h q = some res) : zc_M l g yX9_readySteps cX9_readySteps 2 none zr_X9_readySteps h [va_rf ((some q))] res none := by
  refine zc_M.of (by decide) (by simp [lg_sl, zv_cat, zv_ci, zv_cj]) ?_
  intro p e s m below meth c ls S hK hw hr hlk hnm hl
  replace S : CallFix p m c cX9_readySteps 2 s [va_rf ((some q))].toArray (zc_ws yX9_readySteps cX9_readySteps 2 none) RX9 := S
  have hx := S.1
  have hb := S.2.1
  replace hl : lv_has ls 2 [(0, va_rf ((some q)))] := by simpa [lv_args, zv_cat, zv_ci, zv_cj] using hl
  generalize s.heap = H at hw ⊢
  obtain ⟨locs, hlocs⟩ : ∃ L : List Loc, L = [] := ⟨_, rfl⟩
  rw [← hlocs] at hw ⊢
  have L2 : ∀  (n : Nat) (h : zc_H) (y1 : Int32) (w : zc_H) (H : Heap) (locs : List Loc) (ls : Array Slot), zf_X9_readySteps_L2 q n h y1 = some w → zc_W g h H locs → lv_has ls 2 [(0, va_rf ((some q))), (1, .int (y1))] → (∀ (H : Heap) (locs : List Loc) (ls : Array Slot), zc_W g w H locs → lv_has ls 2 [] → W p l e zr_X9_readySteps s m [va_rf ((some q))].toArray below meth c H locs 0 0 (zc_Q g below zr_X9_readySteps none res [va_rf ((some q))] s) (F0 m 50 ls [])) → W p l e zr_X9_readySteps s m [va_rf ((some q))].toArray below meth c H locs 0 0 (zc_Q g below zr_X9_readySteps none res [va_rf ((some q))] s) (F0 m 2 ls []) := by
    intro n
    induction n with
    | zero =>
      intro h y1 w H locs ls hf
      cases hf
    | succ n ih =>
      intro h y1 w H locs ls hf hw hl  kk
      unfold zf_X9_readySteps_L2 at hf
      refine lv_iload_n hx hb zd_X9_readySteps_2 rfl (lv_at hl 1 rfl) ?_
      refine zl_aload_n hx hb zd_X9_readySteps_3 rfl (lv_at hl 0 rfl) ?_
      replace hf := zo_b hf; obtain ⟨v1, ev1, hf⟩ := hf
      obtain ⟨u2, u2e, u2v⟩ := zo_b ev1
      obtain rfl := zv_r_e u2v
      refine zw_get S hK hw zk_9 (k := 1) (by decide) rfl zm_308 (Or.inl rfl) u2e zd_X9_readySteps_4 ?_
      replace hf := zo_b hf; obtain ⟨a3, na3, hf⟩ := hf
      refine W.eq (g2 := F0 m 7 ls [va_rf ((some a3)), .int (y1)]) (by rw [na3] <;> rfl) ?_
      replace hf := zo_b hf; obtain ⟨v4, ev4, hf⟩ := hf
      obtain ⟨u5, u5e, u5v⟩ := zo_b ev4
      obtain rfl := zv_r_e u5v
      refine zw_get S hK hw zk_6 (k := 0) (by decide) rfl zm_132 (Or.inl rfl) u5e zd_X9_readySteps_7 ?_
      replace hf := zo_b hf; obtain ⟨a6, na6, hf⟩ := hf
      refine W.eq (g2 := F0 m 10 ls [va_rf ((some a6)), .int (y1)]) (by rw [na6] <;> rfl) ?_
      replace hf := zo_b hf; obtain ⟨r7, er7, hf⟩ := hf
      refine zw_callV (n := 0) (ci := 11) (q := zc_cl[11]) (As := []) (rest := [.int (y1)]) S hK hw (zt_Jx4a65c_size_8abf5 l g h a6 _ er7) zm_500 zm_425 zm_426 zq_Jx4a65c_size_8abf5 zm_72 (by decide +kernel) ⟨Nat.le_of_ble_eq_true rfl, Nat.le_of_ble_eq_true rfl⟩ rfl rfl rfl (zi_Jx4a65c_size_8abf5 er7) hl.1 rfl (by simp [zv_cat, zv_ci, zv_cj]) zd_X9_readySteps_10 ⟨(Nat.le_refl 0), (Nat.le_refl 0)⟩ (fun H locs hw => ?_)
      replace hw : zc_W g h H locs := hw
      refine lv_icmp_ge (tgt := 50) hx hb zd_X9_readySteps_13 (by decide) (fun c8 => ?_) (fun c8 => ?_)
      · replace hf := zo_t c8 hf
        have hres := Option.some.inj hf; subst hres
        exact kk _ _ _ hw (lv_sub hl [] rfl)
      · replace hf := zo_f c8 hf
        refine zl_aload_n hx hb zd_X9_readySteps_16 rfl (lv_at hl 0 rfl) ?_
        replace hf := zo_b hf; obtain ⟨v9, ev9, hf⟩ := hf
        obtain ⟨u10, u10e, u10v⟩ := zo_b ev9
        obtain rfl := zv_r_e u10v
        refine zw_get S hK hw zk_9 (k := 1) (by decide) rfl zm_308 (Or.inl rfl) u10e zd_X9_readySteps_17 ?_
        replace hf := zo_b hf; obtain ⟨a11, na11, hf⟩ := hf
        refine W.eq (g2 := F0 m 20 ls [va_rf ((some a11))]) (by rw [na11] <;> rfl) ?_
        replace hf := zo_b hf; obtain ⟨v12, ev12, hf⟩ := hf
        obtain ⟨u13, u13e, u13v⟩ := zo_b ev12
        obtain rfl := zv_r_e u13v
        refine zw_get S hK hw zk_6 (k := 0) (by decide) rfl zm_132 (Or.inl rfl) u13e zd_X9_readySteps_20 ?_
        refine lv_iload_n hx hb zd_X9_readySteps_23 rfl (lv_at hl 1 rfl) ?_
        replace hf := zo_b hf; obtain ⟨a14, na14, hf⟩ := hf
        refine W.eq (g2 := F0 m 24 ls [.int (y1), va_rf ((some a14))]) (by rw [na14] <;> rfl) ?_
        replace hf := zo_b hf; obtain ⟨r15, er15, hf⟩ := hf
        refine zw_callV (n := 1) (ci := 11) (q := zc_cl[11]) (As := [.int (y1)]) (rest := []) S hK hw (zt_Jx4a65c_get_915e3 l g h a14 y1 _ er15) zm_699 zm_429 zm_430 zq_Jx4a65c_get_915e3 zm_72 (by decide +kernel) ⟨Nat.le_of_ble_eq_true rfl, Nat.le_of_ble_eq_true rfl⟩ rfl rfl rfl (zi_Jx4a65c_get_915e3 er15) hl.1 rfl (by simp [zv_cat, zv_ci, zv_cj]) zd_X9_readySteps_24 ⟨(Nat.le_refl 0), (Nat.le_refl 0)⟩ (fun H locs hw => ?_)
        replace hw : zc_W g h H locs := hw
        replace hf := zo_n hf; obtain ⟨z16, hf⟩ := hf
        refine zw_cast (q := zc_cl[4]) S hK hw zm_505 rfl rfl (Decidable.not_not.mp z16) zd_X9_readySteps_27 ?_
        refine zl_aload_n hx hb zd_X9_readySteps_30 rfl (lv_at hl 0 rfl) ?_
        replace hf := zo_b hf; obtain ⟨v17, ev17, hf⟩ := hf
        obtain ⟨u18, u18e, u18v⟩ := zo_b ev17
        obtain rfl := zv_r_e u18v
        refine zw_get S hK hw zk_9 (k := 7) (by decide) rfl zm_314 (Or.inl rfl) u18e zd_X9_readySteps_31 ?_
        refine zl_aload_n hx hb zd_X9_readySteps_34 rfl (lv_at hl 0 rfl) ?_
        replace hf := zo_b hf; obtain ⟨v19, ev19, hf⟩ := hf
        obtain ⟨u20, u20e, u20v⟩ := zo_b ev19
        obtain rfl := zv_r_e u20v
        refine zw_get S hK hw zk_9 (k := 1) (by decide) rfl zm_308 (Or.inl rfl) u20e zd_X9_readySteps_35 ?_
        replace hf := zo_b hf; obtain ⟨a21, na21, hf⟩ := hf
        refine W.eq (g2 := F0 m 38 ls [va_rf ((some a21)), va_rf (v17), va_rf (r15)]) (by rw [na21] <;> rfl) ?_
        replace hf := zo_b hf; obtain ⟨v22, ev22, hf⟩ := hf
        obtain ⟨u23, u23e, u23v⟩ := zo_b ev22
        obtain rfl := zv_i_e u23v
        refine zw_get S hK hw zk_6 (k := 3) (by decide) rfl zm_139 (Or.inl rfl) u23e zd_X9_readySteps_38 ?_
        replace hf := zo_b hf; obtain ⟨a24, na24, hf⟩ := hf
        refine W.eq (g2 := F0 m 41 ls [.int (v22), va_rf (v17), va_rf ((some a24))]) (by rw [na24] <;> rfl) ?_
        replace hf := zo_b hf; obtain ⟨r25, er25, hf⟩ := hf
        refine zw_callV (n := 2) (ci := 4) (q := zc_cl[4]) (As := [va_rf (v17), .int (v22)]) (rest := []) S hK hw (zt_X4_readyStep l g h a24 v17 v22 _ er25) zm_602 zm_603 zm_604 zq_X4_readyStep zm_84 (by decide +kernel) ⟨Nat.le_of_ble_eq_true rfl, Nat.le_of_ble_eq_true rfl⟩ rfl rfl rfl (zi_X4_readyStep er25) hl.1 rfl (by simp [zv_cat, zv_ci, zv_cj]) zd_X9_readySteps_41 ⟨(Nat.le_refl 0), (Nat.le_refl 0)⟩ (fun H locs hw => ?_)
        replace hw : zc_W g r25 H locs := hw
        refine lv_iinc (i := 1) (v := (y1 + 1)) (lv' := [(1, .int ((y1 + 1))), (0, va_rf ((some q)))]) hx hb zd_X9_readySteps_44 hl (k := 1) rfl (congrArg (_ + ·) (by decide)) (by decide) rfl (fun ls hl => ?_)
        refine lv_goto (tgt := 2) hx hb zd_X9_readySteps_47 (by decide) ?_
        exact ih r25 (y1 + 1) _ _ _ _ hf hw (lv_sub hl [1, 0] rfl) kk
  unfold zf_X9_readySteps at hf
  obtain ⟨-, hf⟩ := zo_n hf
  refine lv_iconst (v := 0) hx hb zd_X9_readySteps_0 (by decide) ?_
  refine lv_istore_n (i := 1) (lv' := [(1, .int (0)), (0, va_rf ((some q)))]) hx hb zd_X9_readySteps_1 rfl hl (by decide) rfl (fun ls hl => ?_)
  replace hf := zo_b hf; obtain ⟨w26, w26e, hf⟩ := hf
  refine L2  2000 h 0 _ _ _ _ w26e hw (lv_sub hl [1, 0] rfl) (fun H locs ls hw hl => ?_)
  have hres := Option.some.inj hf; subst hres
  exact zw_vret hx hb hr hlk hw zd_X9_readySteps_50 (Nat.le_refl 0) (Nat.le_refl 0)
def zf_X9_rule (h : zc_H) (q : Nat) (x1 : Int32) (x2 : Int32) : Option (zc_H × Int32) :=
  if ¬ zf_is h q 9 = true then none else
  (zf_gr h q 9 1).bind fun v1 =>
  v1.bind fun a3 =>
  (zf_X6_mayBeRule h a3 x1 x2).bind fun r4 =>
  if r4 = 0 then
    (zf_X9_refuse h q (-6)).bind fun r15 =>
    some (r15.1, r15.2)
  else
  (zf_gr h q 9 1).bind fun v6 =>
  v6.bind fun a8 =>
  (zf_X6_ruleOf h a8 x1).bind fun r9 =>
  (zf_gr h q 9 1).bind fun v10 =>
  v10.bind fun a12 =>
  (zf_X6_changeRule h a12 x1 x2).bind fun r13 =>
  (zf_X9_readySteps r13 q).bind fun r14 =>
  some (r14, r9)
abbrev zr_X9_rule : Room := { frames := 6, cells := 0, slots := 0, locals := 144 }
theorem zi_X9_rule {h : zc_H} {q : Nat} {x1 : Int32} {x2 : Int32} {res : zc_H × Int32} (hf : zf_X9_rule h q x1 x2 = some res) : zf_is h q 9 = true := Decidable.not_not.mp (zo_n hf).1
set_option maxHeartbeats 4000000 in
set_option maxRecDepth 20000 in
theorem zt_X9_rule (l : Launch) (g : zc_G) (h : zc_H) (q : Nat) (x1 : Int32) (x2 : Int32) (res : zc_H × Int32) (hf : zf_X9_rule h q x1 x2 = some res) : zc_M l g yX9_rule cX9_rule 4 (some .int) zr_X9_rule h [va_rf ((some q)), .int (x1), .int (x2)] res.1 (some (.int (res.2))) := by
  refine zc_M.of (by decide) (by simp [lg_sl, zv_cat, zv_ci, zv_cj]) ?_
  intro p e s m below meth c ls S hK hw hr hlk hnm hl
  replace S : CallFix p m c cX9_rule 4 s [va_rf ((some q)), .int (x1), .int (x2)].toArray (zc_ws yX9_rule cX9_rule 4 (some .int)) RX9 := S
  have hx := S.1
  have hb := S.2.1
  replace hl : lv_has ls 4 [(0, va_rf ((some q))), (1, .int (x1)), (2, .int (x2))] := by simpa [lv_args, zv_cat, zv_ci, zv_cj] using hl
  generalize s.heap = H at hw ⊢
  obtain ⟨locs, hlocs⟩ : ∃ L : List Loc, L = [] := ⟨_, rfl⟩
  rw [← hlocs] at hw ⊢
  unfold zf_X9_rule at hf
  obtain ⟨-, hf⟩ := zo_n hf
  refine zl_aload_n hx hb zd_X9_rule_0 rfl (lv_at hl 0 rfl) ?_
  replace hf := zo_b hf; obtain ⟨v1, ev1, hf⟩ := hf
  obtain ⟨u2, u2e, u2v⟩ := zo_b ev1
  obtain rfl := zv_r_e u2v
  refine zw_get S hK hw zk_9 (k := 1) (by decide) rfl zm_308 (Or.inl rfl) u2e zd_X9_rule_1 ?_
  refine lv_iload_n hx hb zd_X9_rule_4 rfl (lv_at hl 1 rfl) ?_
  refine lv_iload_n hx hb zd_X9_rule_5 rfl (lv_at hl 2 rfl) ?_
  replace hf := zo_b hf; obtain ⟨a3, na3, hf⟩ := hf
  refine W.eq (g2 := F0 m 6 ls [.int (x2), .int (x1), va_rf ((some a3))]) (by rw [na3] <;> rfl) ?_
  replace hf := zo_b hf; obtain ⟨r4, er4, hf⟩ := hf
  refine zw_callV (n := 2) (ci := 6) (q := zc_cl[6]) (As := [.int (x1), .int (x2)]) (rest := []) S hK hw (zt_X6_mayBeRule l g h a3 x1 x2 _ er4) zm_683 zm_684 zm_685 zq_X6_mayBeRule zm_69 (by decide +kernel) ⟨Nat.le_of_ble_eq_true rfl, Nat.le_of_ble_eq_true rfl⟩ rfl rfl rfl (zi_X6_mayBeRule er4) hl.1 rfl (by simp [zv_cat, zv_ci, zv_cj]) zd_X9_rule_6 ⟨(Nat.le_refl 0), (Nat.le_refl 0)⟩ (fun H locs hw => ?_)
  replace hw : zc_W g h H locs := hw
  refine lv_if_ne (tgt := 19) hx hb zd_X9_rule_9 (by decide) (fun c5 => ?_) (fun c5 => ?_)
  · replace hf := zo_f c5 hf
    refine zl_aload_n hx hb zd_X9_rule_19 rfl (lv_at hl 0 rfl) ?_
    replace hf := zo_b hf; obtain ⟨v6, ev6, hf⟩ := hf
    obtain ⟨u7, u7e, u7v⟩ := zo_b ev6
    obtain rfl := zv_r_e u7v
    refine zw_get S hK hw zk_9 (k := 1) (by decide) rfl zm_308 (Or.inl rfl) u7e zd_X9_rule_20 ?_
    refine lv_iload_n hx hb zd_X9_rule_23 rfl (lv_at hl 1 rfl) ?_
    replace hf := zo_b hf; obtain ⟨a8, na8, hf⟩ := hf
    refine W.eq (g2 := F0 m 24 ls [.int (x1), va_rf ((some a8))]) (by rw [na8] <;> rfl) ?_
    replace hf := zo_b hf; obtain ⟨r9, er9, hf⟩ := hf
    refine zw_callV (n := 1) (ci := 6) (q := zc_cl[6]) (As := [.int (x1)]) (rest := []) S hK hw (zt_X6_ruleOf l g h a8 x1 _ er9) zm_687 zm_688 zm_689 zq_X6_ruleOf zm_69 (by decide +kernel) ⟨Nat.le_of_ble_eq_true rfl, Nat.le_of_ble_eq_true rfl⟩ rfl rfl rfl (zi_X6_ruleOf er9) hl.1 rfl (by simp [zv_cat, zv_ci, zv_cj]) zd_X9_rule_24 ⟨(Nat.le_refl 0), (Nat.le_refl 0)⟩ (fun H locs hw => ?_)
    replace hw : zc_W g h H locs := hw
    refine lv_istore_n (i := 3) (lv' := [(3, .int (r9)), (0, va_rf ((some q))), (1, .int (x1)), (2, .int (x2))]) hx hb zd_X9_rule_27 rfl hl (by decide) rfl (fun ls hl => ?_)
    refine zl_aload_n hx hb zd_X9_rule_28 rfl (lv_at hl 1 rfl) ?_
    replace hf := zo_b hf; obtain ⟨v10, ev10, hf⟩ := hf
    obtain ⟨u11, u11e, u11v⟩ := zo_b ev10
    obtain rfl := zv_r_e u11v
    refine zw_get S hK hw zk_9 (k := 1) (by decide) rfl zm_308 (Or.inl rfl) u11e zd_X9_rule_29 ?_
    refine lv_iload_n hx hb zd_X9_rule_32 rfl (lv_at hl 2 rfl) ?_
    refine lv_iload_n hx hb zd_X9_rule_33 rfl (lv_at hl 3 rfl) ?_
    replace hf := zo_b hf; obtain ⟨a12, na12, hf⟩ := hf
    refine W.eq (g2 := F0 m 34 ls [.int (x2), .int (x1), va_rf ((some a12))]) (by rw [na12] <;> rfl) ?_
    replace hf := zo_b hf; obtain ⟨r13, er13, hf⟩ := hf
    refine zw_callV (n := 2) (ci := 6) (q := zc_cl[6]) (As := [.int (x1), .int (x2)]) (rest := []) S hK hw (zt_X6_changeRule l g h a12 x1 x2 _ er13) zm_691 zm_692 zm_693 zq_X6_changeRule zm_69 (by decide +kernel) ⟨Nat.le_of_ble_eq_true rfl, Nat.le_of_ble_eq_true rfl⟩ rfl rfl rfl (zi_X6_changeRule er13) hl.1 rfl (by simp [zv_cat, zv_ci, zv_cj]) zd_X9_rule_34 ⟨(Nat.le_refl 0), (Nat.le_refl 0)⟩ (fun H locs hw => ?_)
    replace hw : zc_W g r13 H locs := hw
    refine zl_aload_n hx hb zd_X9_rule_37 rfl (lv_at hl 1 rfl) ?_
    replace hf := zo_b hf; obtain ⟨r14, er14, hf⟩ := hf
    refine zw_callV (n := 0) (ci := 9) (q := zc_cl[9]) (As := []) (rest := []) S hK hw (zt_X9_readySteps l g r13 q _ er14) zm_695 zm_697 zm_14 zq_X9_readySteps zm_68 (by decide +kernel) ⟨Nat.le_of_ble_eq_true rfl, Nat.le_of_ble_eq_true rfl⟩ rfl rfl rfl (zi_X9_readySteps er14) hl.1 rfl (by simp [zv_cat, zv_ci, zv_cj]) zd_X9_rule_38 ⟨(Nat.le_refl 0), (Nat.le_refl 0)⟩ (fun H locs hw => ?_)
    replace hw : zc_W g r14 H locs := hw
    refine lv_iload_n hx hb zd_X9_rule_41 rfl (lv_at hl 0 rfl) ?_
    have hres := Option.some.inj hf; subst hres
    exact zw_iret (v := r9) (ty := .int) hx hb hr hlk rfl hw zd_X9_rule_42 (Nat.le_refl 0) (Nat.le_refl 0)
  · replace hf := zo_t c5 hf
    refine zl_aload_n hx hb zd_X9_rule_12 rfl (lv_at hl 0 rfl) ?_
    refine lv_bipush (v := (-6)) hx hb zd_X9_rule_13 (by decide) ?_
    replace hf := zo_b hf; obtain ⟨r15, er15, hf⟩ := hf
    refine zw_callV (n := 1) (ci := 9) (q := zc_cl[9]) (As := [.int ((-6))]) (rest := []) S hK hw (zt_X9_refuse l g h q (-6) _ er15) zm_349 zm_351 zm_1 zq_X9_refuse zm_68 (by decide +kernel) ⟨Nat.le_of_ble_eq_true rfl, Nat.le_of_ble_eq_true rfl⟩ rfl rfl rfl (zi_X9_refuse er15) hl.1 rfl (by simp [zv_cat, zv_ci, zv_cj]) zd_X9_rule_15 ⟨(Nat.le_refl 0), (Nat.le_refl 0)⟩ (fun H locs hw => ?_)
    replace hw : zc_W g r15.1 H locs := hw
    have hres := Option.some.inj hf; subst hres
    exact zw_iret (v := r15.2) (ty := .int) hx hb hr hlk rfl hw zd_X9_rule_18 (Nat.le_refl 0) (Nat.le_refl 0)
def zf_X9_place (h : zc_H) (q : Nat) (x1 : Int32) (x2 : Int32) (x3 : Int32) : Option (zc_H × Int32) :=
  if ¬ zf_is h q 9 = true then none else
  (zf_gr h q 9 1).bind fun v1 =>
  v1.bind fun a3 =>
  (zf_X6_revisionAt h a3 x1).bind fun r4 =>
  (zf_gr h q 9 1).bind fun v5 =>
  v5.bind fun a7 =>
  (zf_X6_revisionAt h a7 x2).bind fun r8 =>
  let k30 := fun (_ : Unit) =>
    (zf_X9_refuse h q (-11)).bind fun r10 =>
    some (r10.1, r10.2)
  if r4 = none then
    k30 ()
  else
  if r8 = none then
    k30 ()
  else
  r4.bind fun a12 =>
  (zf_X4_hasLine h a12 x3).bind fun r13 =>
  if r13 = 0 then
    (zf_X9_refuse h q (-15)).bind fun r28 =>
    some (r28.1, r28.2)
  else
  (zf_gr h q 9 7).bind fun v15 =>
  (zf_gr h q 9 1).bind fun v17 =>
  v17.bind fun a19 =>
  (zf_gi h a19 6 3).bind fun v20 =>
  v15.bind fun a22 =>
  (zf_X1_match h a22 r4 r8 v20).bind fun r23 =>
  (zf_gr r23 q 9 7).bind fun v24 =>
  v24.bind fun a26 =>
  (zf_X1_placeOf r23 a26 x3).bind fun r27 =>
  some (r23, r27)
abbrev zr_X9_place : Room := { frames := 4, cells := 0, slots := 0, locals := 100 }
theorem zi_X9_place {h : zc_H} {q : Nat} {x1 : Int32} {x2 : Int32} {x3 : Int32} {res : zc_H × Int32} (hf : zf_X9_place h q x1 x2 x3 = some res) : zf_is h q 9 = true := Decidable.not_not.mp (zo_n hf).1
set_option maxHeartbeats 4000000 in
set_option maxRecDepth 20000 in
theorem zt_X9_place (l : Launch) (g : zc_G) (h : zc_H) (q : Nat) (x1 : Int32) (x2 : Int32) (x3 : Int32) (res : zc_H × Int32) (hf : zf_X9_place h q x1 x2 x3 = some res) : zc_M l g yX9_place cX9_place 6 (some .int) zr_X9_place h [va_rf ((some q)), .int (x1), .int (x2), .int (x3)] res.1 (some (.int (res.2))) := by
  refine zc_M.of (by decide) (by simp [lg_sl, zv_cat, zv_ci, zv_cj]) ?_
  intro p e s m below meth c ls S hK hw hr hlk hnm hl
  replace S : CallFix p m c cX9_place 6 s [va_rf ((some q)), .int (x1), .int (x2), .int (x3)].toArray (zc_ws yX9_place cX9_place 6 (some .int)) RX9 := S
  have hx := S.1
  have hb := S.2.1
  replace hl : lv_has ls 6 [(0, va_rf ((some q))), (1, .int (x1)), (2, .int (x2)), (3, .int (x3))] := by simpa [lv_args, zv_cat, zv_ci, zv_cj] using hl
  generalize s.heap = H at hw ⊢
  obtain ⟨locs, hlocs⟩ : ∃ L : List Loc, L = [] := ⟨_, rfl⟩
  rw [← hlocs] at hw ⊢
  unfold zf_X9_place at hf
  obtain ⟨-, hf⟩ := zo_n hf
  refine zl_aload_n hx hb zd_X9_place_0 rfl (lv_at hl 0 rfl) ?_
  replace hf := zo_b hf; obtain ⟨v1, ev1, hf⟩ := hf
  obtain ⟨u2, u2e, u2v⟩ := zo_b ev1
  obtain rfl := zv_r_e u2v
  refine zw_get S hK hw zk_9 (k := 1) (by decide) rfl zm_308 (Or.inl rfl) u2e zd_X9_place_1 ?_
  refine lv_iload_n hx hb zd_X9_place_4 rfl (lv_at hl 1 rfl) ?_
  replace hf := zo_b hf; obtain ⟨a3, na3, hf⟩ := hf
  refine W.eq (g2 := F0 m 5 ls [.int (x1), va_rf ((some a3))]) (by rw [na3] <;> rfl) ?_
  replace hf := zo_b hf; obtain ⟨r4, er4, hf⟩ := hf
  refine zw_callV (n := 1) (ci := 6) (q := zc_cl[6]) (As := [.int (x1)]) (rest := []) S hK hw (zt_X6_revisionAt l g h a3 x1 _ er4) zm_482 zm_483 zm_484 zq_X6_revisionAt zm_69 (by decide +kernel) ⟨Nat.le_of_ble_eq_true rfl, Nat.le_of_ble_eq_true rfl⟩ rfl rfl rfl (zi_X6_revisionAt er4) hl.1 rfl (by simp [zv_cat, zv_ci, zv_cj]) zd_X9_place_5 ⟨(Nat.le_refl 0), (Nat.le_refl 0)⟩ (fun H locs hw => ?_)
  replace hw : zc_W g h H locs := hw
  refine zl_astore (i := 4) (lv' := [(4, va_rf (r4)), (0, va_rf ((some q))), (1, .int (x1)), (2, .int (x2)), (3, .int (x3))]) hx hb zd_X9_place_8 hl (by decide) rfl (fun ls hl => ?_)
  refine zl_aload_n hx hb zd_X9_place_10 rfl (lv_at hl 1 rfl) ?_
  replace hf := zo_b hf; obtain ⟨v5, ev5, hf⟩ := hf
  obtain ⟨u6, u6e, u6v⟩ := zo_b ev5
  obtain rfl := zv_r_e u6v
  refine zw_get S hK hw zk_9 (k := 1) (by decide) rfl zm_308 (Or.inl rfl) u6e zd_X9_place_11 ?_
  refine lv_iload_n hx hb zd_X9_place_14 rfl (lv_at hl 3 rfl) ?_
  replace hf := zo_b hf; obtain ⟨a7, na7, hf⟩ := hf
  refine W.eq (g2 := F0 m 15 ls [.int (x2), va_rf ((some a7))]) (by rw [na7] <;> rfl) ?_
  replace hf := zo_b hf; obtain ⟨r8, er8, hf⟩ := hf
  refine zw_callV (n := 1) (ci := 6) (q := zc_cl[6]) (As := [.int (x2)]) (rest := []) S hK hw (zt_X6_revisionAt l g h a7 x2 _ er8) zm_482 zm_483 zm_484 zq_X6_revisionAt zm_69 (by decide +kernel) ⟨Nat.le_of_ble_eq_true rfl, Nat.le_of_ble_eq_true rfl⟩ rfl rfl rfl (zi_X6_revisionAt er8) hl.1 rfl (by simp [zv_cat, zv_ci, zv_cj]) zd_X9_place_15 ⟨(Nat.le_refl 0), (Nat.le_refl 0)⟩ (fun H locs hw => ?_)
  replace hw : zc_W g h H locs := hw
  refine zl_astore (i := 5) (lv' := [(5, va_rf (r8)), (4, va_rf (r4)), (0, va_rf ((some q))), (1, .int (x1)), (2, .int (x2)), (3, .int (x3))]) hx hb zd_X9_place_18 hl (by decide) (by simp [List.filter, zv_cat, zv_ci, zv_cj]) (fun ls hl => ?_)
  refine zl_aload hx hb zd_X9_place_20 (lv_at hl 1 rfl) ?_
  have k30h : ∀ (_ : Unit) (H : Heap) (locs : List Loc) (ls : Array Slot), (
      (zf_X9_refuse h q (-11)).bind fun r10 =>
      some (r10.1, r10.2)
      ) = some res → zc_W g h H locs → lv_has ls 6 [(0, va_rf ((some q)))] → W p l e zr_X9_place s m [va_rf ((some q)), .int (x1), .int (x2), .int (x3)].toArray below meth c H locs ((0 + 0) + 0) ((0 + 0) + 0) (zc_Q g below zr_X9_place (some (.int (res.2))) res.1 [va_rf ((some q)), .int (x1), .int (x2), .int (x3)] s) (F0 m 30 ls []) := by
    intro _ H locs ls hf hw hl
    refine zl_aload_n hx hb zd_X9_place_30 rfl (lv_at hl 0 rfl) ?_
    refine lv_bipush (v := (-11)) hx hb zd_X9_place_31 (by decide) ?_
    replace hf := zo_b hf; obtain ⟨r10, er10, hf⟩ := hf
    refine zw_callV (n := 1) (ci := 9) (q := zc_cl[9]) (As := [.int ((-11))]) (rest := []) S hK hw (zt_X9_refuse l g h q (-11) _ er10) zm_349 zm_351 zm_1 zq_X9_refuse zm_68 (by decide +kernel) ⟨Nat.le_of_ble_eq_true rfl, Nat.le_of_ble_eq_true rfl⟩ rfl rfl rfl (zi_X9_refuse er10) hl.1 rfl (by simp [zv_cat, zv_ci, zv_cj]) zd_X9_place_33 ⟨(Nat.le_refl 0), (Nat.le_refl 0)⟩ (fun H locs hw => ?_)
    replace hw : zc_W g r10.1 H locs := hw
    have hres := Option.some.inj hf; subst hres
    exact zw_iret (v := r10.2) (ty := .int) hx hb hr hlk rfl hw zd_X9_place_36 (Nat.le_refl 0) (Nat.le_refl 0)
  refine zl_ifnull (tgt := 30) hx hb zd_X9_place_22 (by decide) (fun c9 => ?_) (fun c9 => ?_)
  · replace hf := zo_t c9 hf
    exact k30h () _ _ _ hf hw (lv_sub hl [2] rfl)
  · replace hf := zo_f c9 hf
    refine zl_aload hx hb zd_X9_place_25 (lv_at hl 0 rfl) ?_
    refine zl_ifnonnull (tgt := 37) hx hb zd_X9_place_27 (by decide) (fun c11 => ?_) (fun c11 => ?_)
    · replace hf := zo_f c11 hf
      refine zl_aload hx hb zd_X9_place_37 (lv_at hl 1 rfl) ?_
      refine lv_iload_n hx hb zd_X9_place_39 rfl (lv_at hl 5 rfl) ?_
      replace hf := zo_b hf; obtain ⟨a12, na12, hf⟩ := hf
      refine W.eq (g2 := F0 m 40 ls [.int (x3), va_rf ((some a12))]) (by rw [na12] <;> rfl) ?_
      replace hf := zo_b hf; obtain ⟨r13, er13, hf⟩ := hf
      refine zw_callV (n := 1) (ci := 4) (q := zc_cl[4]) (As := [.int (x3)]) (rest := []) S hK hw (zt_X4_hasLine l g h a12 x3 _ er13) zm_667 zm_668 zm_669 zq_X4_hasLine zm_84 (by decide +kernel) ⟨Nat.le_of_ble_eq_true rfl, Nat.le_of_ble_eq_true rfl⟩ rfl rfl rfl (zi_X4_hasLine er13) hl.1 rfl (by simp [zv_cat, zv_ci, zv_cj]) zd_X9_place_40 ⟨(Nat.le_refl 0), (Nat.le_refl 0)⟩ (fun H locs hw => ?_)
      replace hw : zc_W g h H locs := hw
      refine lv_if_ne (tgt := 53) hx hb zd_X9_place_43 (by decide) (fun c14 => ?_) (fun c14 => ?_)
      · replace hf := zo_f c14 hf
        refine zl_aload_n hx hb zd_X9_place_53 rfl (lv_at hl 2 rfl) ?_
        replace hf := zo_b hf; obtain ⟨v15, ev15, hf⟩ := hf
        obtain ⟨u16, u16e, u16v⟩ := zo_b ev15
        obtain rfl := zv_r_e u16v
        refine zw_get S hK hw zk_9 (k := 7) (by decide) rfl zm_314 (Or.inl rfl) u16e zd_X9_place_54 ?_
        refine zl_aload hx hb zd_X9_place_57 (lv_at hl 1 rfl) ?_
        refine zl_aload hx hb zd_X9_place_59 (lv_at hl 0 rfl) ?_
        refine zl_aload_n hx hb zd_X9_place_61 rfl (lv_at hl 2 rfl) ?_
        replace hf := zo_b hf; obtain ⟨v17, ev17, hf⟩ := hf
        obtain ⟨u18, u18e, u18v⟩ := zo_b ev17
        obtain rfl := zv_r_e u18v
        refine zw_get S hK hw zk_9 (k := 1) (by decide) rfl zm_308 (Or.inl rfl) u18e zd_X9_place_62 ?_
        replace hf := zo_b hf; obtain ⟨a19, na19, hf⟩ := hf
        refine W.eq (g2 := F0 m 65 ls [va_rf ((some a19)), va_rf (r8), va_rf (r4), va_rf (v15)]) (by rw [na19] <;> rfl) ?_
        replace hf := zo_b hf; obtain ⟨v20, ev20, hf⟩ := hf
        obtain ⟨u21, u21e, u21v⟩ := zo_b ev20
        obtain rfl := zv_i_e u21v
        refine zw_get S hK hw zk_6 (k := 3) (by decide) rfl zm_139 (Or.inl rfl) u21e zd_X9_place_65 ?_
        replace hf := zo_b hf; obtain ⟨a22, na22, hf⟩ := hf
        refine W.eq (g2 := F0 m 68 ls [.int (v20), va_rf (r8), va_rf (r4), va_rf ((some a22))]) (by rw [na22] <;> rfl) ?_
        replace hf := zo_b hf; obtain ⟨r23, er23, hf⟩ := hf
        refine zw_callV (n := 3) (ci := 1) (q := zc_cl[1]) (As := [va_rf (r4), va_rf (r8), .int (v20)]) (rest := []) S hK hw (zt_X1_match l g h a22 r4 r8 v20 _ er23) zm_704 zm_607 zm_608 zq_X1_match zm_74 (by decide +kernel) ⟨Nat.le_of_ble_eq_true rfl, Nat.le_of_ble_eq_true rfl⟩ rfl rfl rfl (zi_X1_match er23) hl.1 rfl (by simp [zv_cat, zv_ci, zv_cj]) zd_X9_place_68 ⟨(Nat.le_refl 0), (Nat.le_refl 0)⟩ (fun H locs hw => ?_)
        replace hw : zc_W g r23 H locs := hw
        refine zl_aload_n hx hb zd_X9_place_71 rfl (lv_at hl 2 rfl) ?_
        replace hf := zo_b hf; obtain ⟨v24, ev24, hf⟩ := hf
        obtain ⟨u25, u25e, u25v⟩ := zo_b ev24
        obtain rfl := zv_r_e u25v
        refine zw_get S hK hw zk_9 (k := 7) (by decide) rfl zm_314 (Or.inl rfl) u25e zd_X9_place_72 ?_
        refine lv_iload_n hx hb zd_X9_place_75 rfl (lv_at hl 5 rfl) ?_
        replace hf := zo_b hf; obtain ⟨a26, na26, hf⟩ := hf
        refine W.eq (g2 := F0 m 76 ls [.int (x3), va_rf ((some a26))]) (by rw [na26] <;> rfl) ?_
        replace hf := zo_b hf; obtain ⟨r27, er27, hf⟩ := hf
        refine zw_callV (n := 1) (ci := 1) (q := zc_cl[1]) (As := [.int (x3)]) (rest := []) S hK hw (zt_X1_placeOf l g r23 a26 x3 _ er27) zm_705 zm_651 zm_652 zq_X1_placeOf zm_74 (by decide +kernel) ⟨Nat.le_of_ble_eq_true rfl, Nat.le_of_ble_eq_true rfl⟩ rfl rfl rfl (zi_X1_placeOf er27) hl.1 rfl (by simp [zv_cat, zv_ci, zv_cj]) zd_X9_place_76 ⟨(Nat.le_refl 0), (Nat.le_refl 0)⟩ (fun H locs hw => ?_)
        replace hw : zc_W g r23 H locs := hw
        have hres := Option.some.inj hf; subst hres
        exact zw_iret (v := r27) (ty := .int) hx hb hr hlk rfl hw zd_X9_place_79 (Nat.le_refl 0) (Nat.le_refl 0)
      · replace hf := zo_t c14 hf
        refine zl_aload_n hx hb zd_X9_place_46 rfl (lv_at hl 2 rfl) ?_
        refine lv_bipush (v := (-15)) hx hb zd_X9_place_47 (by decide) ?_
        replace hf := zo_b hf; obtain ⟨r28, er28, hf⟩ := hf
        refine zw_callV (n := 1) (ci := 9) (q := zc_cl[9]) (As := [.int ((-15))]) (rest := []) S hK hw (zt_X9_refuse l g h q (-15) _ er28) zm_349 zm_351 zm_1 zq_X9_refuse zm_68 (by decide +kernel) ⟨Nat.le_of_ble_eq_true rfl, Nat.le_of_ble_eq_true rfl⟩ rfl rfl rfl (zi_X9_refuse er28) hl.1 rfl (by simp [zv_cat, zv_ci, zv_cj]) zd_X9_place_49 ⟨(Nat.le_refl 0), (Nat.le_refl 0)⟩ (fun H locs hw => ?_)
        replace hw : zc_W g r28.1 H locs := hw
        have hres := Option.some.inj hf; subst hres
        exact zw_iret (v := r28.2) (ty := .int) hx hb hr hlk rfl hw zd_X9_place_52 (Nat.le_refl 0) (Nat.le_refl 0)
    · replace hf := zo_t c11 hf
      exact k30h () _ _ _ hf hw (lv_sub hl [2] rfl)
def zf_X9_matched (h : zc_H) (q : Nat) (x1 : Int32) (x2 : Int32) (x3 : Int32) : Option (zc_H × Int32) :=
  if ¬ zf_is h q 9 = true then none else
  (zf_gr h q 9 1).bind fun v1 =>
  v1.bind fun a3 =>
  (zf_X6_revisionAt h a3 x1).bind fun r4 =>
  (zf_gr h q 9 1).bind fun v5 =>
  v5.bind fun a7 =>
  (zf_X6_revisionAt h a7 x2).bind fun r8 =>
  let k30 := fun (_ : Unit) =>
    (zf_X9_refuse h q (-1)).bind fun r10 =>
    some (r10.1, r10.2)
  if r4 = none then
    k30 ()
  else
  if r8 = none then
    k30 ()
  else
  let k45 := fun (_ : Unit) =>
    (zf_X9_refuse h q (-5)).bind fun r13 =>
    some (r13.1, r13.2)
  if x3 < 0 then
    k45 ()
  else
  if x3 ≤ 1 then
    (zf_gr h q 9 7).bind fun v15 =>
    (zf_gr h q 9 1).bind fun v17 =>
    v17.bind fun a19 =>
    (zf_gi h a19 6 3).bind fun v20 =>
    v15.bind fun a22 =>
    (zf_X1_match h a22 r4 r8 v20).bind fun r23 =>
    if x3 = 0 then
      (zf_gr r23 q 9 7).bind fun v30 =>
      v30.bind fun a32 =>
      (zf_gi r23 a32 1 3).bind fun v33 =>
      some (r23, v33)
    else
    (zf_gr r23 q 9 7).bind fun v25 =>
    v25.bind fun a27 =>
    (zf_gi r23 a27 1 4).bind fun v28 =>
    some (r23, v28)
  else
  k45 ()
abbrev zr_X9_matched : Room := { frames := 4, cells := 0, slots := 0, locals := 100 }
theorem zi_X9_matched {h : zc_H} {q : Nat} {x1 : Int32} {x2 : Int32} {x3 : Int32} {res : zc_H × Int32} (hf : zf_X9_matched h q x1 x2 x3 = some res) : zf_is h q 9 = true := Decidable.not_not.mp (zo_n hf).1
set_option maxHeartbeats 4000000 in
set_option maxRecDepth 20000 in
theorem zt_X9_matched (l : Launch) (g : zc_G) (h : zc_H) (q : Nat) (x1 : Int32) (x2 : Int32) (x3 : Int32) (res : zc_H × Int32) (hf : zf_X9_matched h q x1 x2 x3 = some res) : zc_M l g yX9_matched cX9_matched 6 (some .int) zr_X9_matched h [va_rf ((some q)), .int (x1), .int (x2), .int (x3)] res.1 (some (.int (res.2))) := by
  refine zc_M.of (by decide) (by simp [lg_sl, zv_cat, zv_ci, zv_cj]) ?_
  intro p e s m below meth c ls S hK hw hr hlk hnm hl
  replace S : CallFix p m c cX9_matched 6 s [va_rf ((some q)), .int (x1), .int (x2), .int (x3)].toArray (zc_ws yX9_matched cX9_matched 6 (some .int)) RX9 := S
  have hx := S.1
  have hb := S.2.1
  replace hl : lv_has ls 6 [(0, va_rf ((some q))), (1, .int (x1)), (2, .int (x2)), (3, .int (x3))] := by simpa [lv_args, zv_cat, zv_ci, zv_cj] using hl
  generalize s.heap = H at hw ⊢
  obtain ⟨locs, hlocs⟩ : ∃ L : List Loc, L = [] := ⟨_, rfl⟩
  rw [← hlocs] at hw ⊢
  unfold zf_X9_matched at hf
  obtain ⟨-, hf⟩ := zo_n hf
  refine zl_aload_n hx hb zd_X9_matched_0 rfl (lv_at hl 0 rfl) ?_
  replace hf := zo_b hf; obtain ⟨v1, ev1, hf⟩ := hf
  obtain ⟨u2, u2e, u2v⟩ := zo_b ev1
  obtain rfl := zv_r_e u2v
  refine zw_get S hK hw zk_9 (k := 1) (by decide) rfl zm_308 (Or.inl rfl) u2e zd_X9_matched_1 ?_
  refine lv_iload_n hx hb zd_X9_matched_4 rfl (lv_at hl 1 rfl) ?_
  replace hf := zo_b hf; obtain ⟨a3, na3, hf⟩ := hf
  refine W.eq (g2 := F0 m 5 ls [.int (x1), va_rf ((some a3))]) (by rw [na3] <;> rfl) ?_
  replace hf := zo_b hf; obtain ⟨r4, er4, hf⟩ := hf
  refine zw_callV (n := 1) (ci := 6) (q := zc_cl[6]) (As := [.int (x1)]) (rest := []) S hK hw (zt_X6_revisionAt l g h a3 x1 _ er4) zm_482 zm_483 zm_484 zq_X6_revisionAt zm_69 (by decide +kernel) ⟨Nat.le_of_ble_eq_true rfl, Nat.le_of_ble_eq_true rfl⟩ rfl rfl rfl (zi_X6_revisionAt er4) hl.1 rfl (by simp [zv_cat, zv_ci, zv_cj]) zd_X9_matched_5 ⟨(Nat.le_refl 0), (Nat.le_refl 0)⟩ (fun H locs hw => ?_)
  replace hw : zc_W g h H locs := hw
  refine zl_astore (i := 4) (lv' := [(4, va_rf (r4)), (0, va_rf ((some q))), (1, .int (x1)), (2, .int (x2)), (3, .int (x3))]) hx hb zd_X9_matched_8 hl (by decide) rfl (fun ls hl => ?_)
  refine zl_aload_n hx hb zd_X9_matched_10 rfl (lv_at hl 1 rfl) ?_
  replace hf := zo_b hf; obtain ⟨v5, ev5, hf⟩ := hf
  obtain ⟨u6, u6e, u6v⟩ := zo_b ev5
  obtain rfl := zv_r_e u6v
  refine zw_get S hK hw zk_9 (k := 1) (by decide) rfl zm_308 (Or.inl rfl) u6e zd_X9_matched_11 ?_
  refine lv_iload_n hx hb zd_X9_matched_14 rfl (lv_at hl 3 rfl) ?_
  replace hf := zo_b hf; obtain ⟨a7, na7, hf⟩ := hf
  refine W.eq (g2 := F0 m 15 ls [.int (x2), va_rf ((some a7))]) (by rw [na7] <;> rfl) ?_
  replace hf := zo_b hf; obtain ⟨r8, er8, hf⟩ := hf
  refine zw_callV (n := 1) (ci := 6) (q := zc_cl[6]) (As := [.int (x2)]) (rest := []) S hK hw (zt_X6_revisionAt l g h a7 x2 _ er8) zm_482 zm_483 zm_484 zq_X6_revisionAt zm_69 (by decide +kernel) ⟨Nat.le_of_ble_eq_true rfl, Nat.le_of_ble_eq_true rfl⟩ rfl rfl rfl (zi_X6_revisionAt er8) hl.1 rfl (by simp [zv_cat, zv_ci, zv_cj]) zd_X9_matched_15 ⟨(Nat.le_refl 0), (Nat.le_refl 0)⟩ (fun H locs hw => ?_)
  replace hw : zc_W g h H locs := hw
  refine zl_astore (i := 5) (lv' := [(5, va_rf (r8)), (4, va_rf (r4)), (0, va_rf ((some q))), (1, .int (x1)), (2, .int (x2)), (3, .int (x3))]) hx hb zd_X9_matched_18 hl (by decide) (by simp [List.filter, zv_cat, zv_ci, zv_cj]) (fun ls hl => ?_)
  refine zl_aload hx hb zd_X9_matched_20 (lv_at hl 1 rfl) ?_
  have k30h : ∀ (_ : Unit) (H : Heap) (locs : List Loc) (ls : Array Slot), (
      (zf_X9_refuse h q (-1)).bind fun r10 =>
      some (r10.1, r10.2)
      ) = some res → zc_W g h H locs → lv_has ls 6 [(0, va_rf ((some q)))] → W p l e zr_X9_matched s m [va_rf ((some q)), .int (x1), .int (x2), .int (x3)].toArray below meth c H locs ((0 + 0) + 0) ((0 + 0) + 0) (zc_Q g below zr_X9_matched (some (.int (res.2))) res.1 [va_rf ((some q)), .int (x1), .int (x2), .int (x3)] s) (F0 m 30 ls []) := by
    intro _ H locs ls hf hw hl
    refine zl_aload_n hx hb zd_X9_matched_30 rfl (lv_at hl 0 rfl) ?_
    refine lv_iconst (v := (-1)) hx hb zd_X9_matched_31 (by decide) ?_
    replace hf := zo_b hf; obtain ⟨r10, er10, hf⟩ := hf
    refine zw_callV (n := 1) (ci := 9) (q := zc_cl[9]) (As := [.int ((-1))]) (rest := []) S hK hw (zt_X9_refuse l g h q (-1) _ er10) zm_349 zm_351 zm_1 zq_X9_refuse zm_68 (by decide +kernel) ⟨Nat.le_of_ble_eq_true rfl, Nat.le_of_ble_eq_true rfl⟩ rfl rfl rfl (zi_X9_refuse er10) hl.1 rfl (by simp [zv_cat, zv_ci, zv_cj]) zd_X9_matched_32 ⟨(Nat.le_refl 0), (Nat.le_refl 0)⟩ (fun H locs hw => ?_)
    replace hw : zc_W g r10.1 H locs := hw
    have hres := Option.some.inj hf; subst hres
    exact zw_iret (v := r10.2) (ty := .int) hx hb hr hlk rfl hw zd_X9_matched_35 (Nat.le_refl 0) (Nat.le_refl 0)
  refine zl_ifnull (tgt := 30) hx hb zd_X9_matched_22 (by decide) (fun c9 => ?_) (fun c9 => ?_)
  · replace hf := zo_t c9 hf
    exact k30h () _ _ _ hf hw (lv_sub hl [2] rfl)
  · replace hf := zo_f c9 hf
    refine zl_aload hx hb zd_X9_matched_25 (lv_at hl 0 rfl) ?_
    refine zl_ifnonnull (tgt := 36) hx hb zd_X9_matched_27 (by decide) (fun c11 => ?_) (fun c11 => ?_)
    · replace hf := zo_f c11 hf
      refine lv_iload_n hx hb zd_X9_matched_36 rfl (lv_at hl 5 rfl) ?_
      have k45h : ∀ (_ : Unit) (H : Heap) (locs : List Loc) (ls : Array Slot), (
          (zf_X9_refuse h q (-5)).bind fun r13 =>
          some (r13.1, r13.2)
          ) = some res → zc_W g h H locs → lv_has ls 6 [(0, va_rf ((some q)))] → W p l e zr_X9_matched s m [va_rf ((some q)), .int (x1), .int (x2), .int (x3)].toArray below meth c H locs ((0 + 0) + 0) ((0 + 0) + 0) (zc_Q g below zr_X9_matched (some (.int (res.2))) res.1 [va_rf ((some q)), .int (x1), .int (x2), .int (x3)] s) (F0 m 45 ls []) := by
        intro _ H locs ls hf hw hl
        refine zl_aload_n hx hb zd_X9_matched_45 rfl (lv_at hl 0 rfl) ?_
        refine lv_bipush (v := (-5)) hx hb zd_X9_matched_46 (by decide) ?_
        replace hf := zo_b hf; obtain ⟨r13, er13, hf⟩ := hf
        refine zw_callV (n := 1) (ci := 9) (q := zc_cl[9]) (As := [.int ((-5))]) (rest := []) S hK hw (zt_X9_refuse l g h q (-5) _ er13) zm_349 zm_351 zm_1 zq_X9_refuse zm_68 (by decide +kernel) ⟨Nat.le_of_ble_eq_true rfl, Nat.le_of_ble_eq_true rfl⟩ rfl rfl rfl (zi_X9_refuse er13) hl.1 rfl (by simp [zv_cat, zv_ci, zv_cj]) zd_X9_matched_48 ⟨(Nat.le_refl 0), (Nat.le_refl 0)⟩ (fun H locs hw => ?_)
        replace hw : zc_W g r13.1 H locs := hw
        have hres := Option.some.inj hf; subst hres
        exact zw_iret (v := r13.2) (ty := .int) hx hb hr hlk rfl hw zd_X9_matched_51 (Nat.le_refl 0) (Nat.le_refl 0)
      refine lv_if_lt (tgt := 45) hx hb zd_X9_matched_37 (by decide) (fun c12 => ?_) (fun c12 => ?_)
      · replace hf := zo_t c12 hf
        exact k45h () _ _ _ hf hw (lv_sub hl [2] rfl)
      · replace hf := zo_f c12 hf
        refine lv_iload_n hx hb zd_X9_matched_40 rfl (lv_at hl 5 rfl) ?_
        refine lv_iconst (v := 1) hx hb zd_X9_matched_41 (by decide) ?_
        refine lv_icmp_le (tgt := 52) hx hb zd_X9_matched_42 (by decide) (fun c14 => ?_) (fun c14 => ?_)
        · replace hf := zo_t c14 hf
          refine zl_aload_n hx hb zd_X9_matched_52 rfl (lv_at hl 2 rfl) ?_
          replace hf := zo_b hf; obtain ⟨v15, ev15, hf⟩ := hf
          obtain ⟨u16, u16e, u16v⟩ := zo_b ev15
          obtain rfl := zv_r_e u16v
          refine zw_get S hK hw zk_9 (k := 7) (by decide) rfl zm_314 (Or.inl rfl) u16e zd_X9_matched_53 ?_
          refine zl_aload hx hb zd_X9_matched_56 (lv_at hl 1 rfl) ?_
          refine zl_aload hx hb zd_X9_matched_58 (lv_at hl 0 rfl) ?_
          refine zl_aload_n hx hb zd_X9_matched_60 rfl (lv_at hl 2 rfl) ?_
          replace hf := zo_b hf; obtain ⟨v17, ev17, hf⟩ := hf
          obtain ⟨u18, u18e, u18v⟩ := zo_b ev17
          obtain rfl := zv_r_e u18v
          refine zw_get S hK hw zk_9 (k := 1) (by decide) rfl zm_308 (Or.inl rfl) u18e zd_X9_matched_61 ?_
          replace hf := zo_b hf; obtain ⟨a19, na19, hf⟩ := hf
          refine W.eq (g2 := F0 m 64 ls [va_rf ((some a19)), va_rf (r8), va_rf (r4), va_rf (v15)]) (by rw [na19] <;> rfl) ?_
          replace hf := zo_b hf; obtain ⟨v20, ev20, hf⟩ := hf
          obtain ⟨u21, u21e, u21v⟩ := zo_b ev20
          obtain rfl := zv_i_e u21v
          refine zw_get S hK hw zk_6 (k := 3) (by decide) rfl zm_139 (Or.inl rfl) u21e zd_X9_matched_64 ?_
          replace hf := zo_b hf; obtain ⟨a22, na22, hf⟩ := hf
          refine W.eq (g2 := F0 m 67 ls [.int (v20), va_rf (r8), va_rf (r4), va_rf ((some a22))]) (by rw [na22] <;> rfl) ?_
          replace hf := zo_b hf; obtain ⟨r23, er23, hf⟩ := hf
          refine zw_callV (n := 3) (ci := 1) (q := zc_cl[1]) (As := [va_rf (r4), va_rf (r8), .int (v20)]) (rest := []) S hK hw (zt_X1_match l g h a22 r4 r8 v20 _ er23) zm_704 zm_607 zm_608 zq_X1_match zm_74 (by decide +kernel) ⟨Nat.le_of_ble_eq_true rfl, Nat.le_of_ble_eq_true rfl⟩ rfl rfl rfl (zi_X1_match er23) hl.1 rfl (by simp [zv_cat, zv_ci, zv_cj]) zd_X9_matched_67 ⟨(Nat.le_refl 0), (Nat.le_refl 0)⟩ (fun H locs hw => ?_)
          replace hw : zc_W g r23 H locs := hw
          refine lv_iload_n hx hb zd_X9_matched_70 rfl (lv_at hl 5 rfl) ?_
          refine lv_if_ne (tgt := 84) hx hb zd_X9_matched_71 (by decide) (fun c24 => ?_) (fun c24 => ?_)
          · replace hf := zo_f c24 hf
            refine zl_aload_n hx hb zd_X9_matched_84 rfl (lv_at hl 2 rfl) ?_
            replace hf := zo_b hf; obtain ⟨v25, ev25, hf⟩ := hf
            obtain ⟨u26, u26e, u26v⟩ := zo_b ev25
            obtain rfl := zv_r_e u26v
            refine zw_get S hK hw zk_9 (k := 7) (by decide) rfl zm_314 (Or.inl rfl) u26e zd_X9_matched_85 ?_
            replace hf := zo_b hf; obtain ⟨a27, na27, hf⟩ := hf
            refine W.eq (g2 := F0 m 88 ls [va_rf ((some a27))]) (by rw [na27] <;> rfl) ?_
            replace hf := zo_b hf; obtain ⟨v28, ev28, hf⟩ := hf
            obtain ⟨u29, u29e, u29v⟩ := zo_b ev28
            obtain rfl := zv_i_e u29v
            refine zw_get S hK hw zk_1 (k := 4) (by decide) rfl zm_189 (Or.inl rfl) u29e zd_X9_matched_88 ?_
            have hres := Option.some.inj hf; subst hres
            exact zw_iret (v := v28) (ty := .int) hx hb hr hlk rfl hw zd_X9_matched_91 (Nat.le_refl 0) (Nat.le_refl 0)
          · replace hf := zo_t c24 hf
            refine zl_aload_n hx hb zd_X9_matched_74 rfl (lv_at hl 2 rfl) ?_
            replace hf := zo_b hf; obtain ⟨v30, ev30, hf⟩ := hf
            obtain ⟨u31, u31e, u31v⟩ := zo_b ev30
            obtain rfl := zv_r_e u31v
            refine zw_get S hK hw zk_9 (k := 7) (by decide) rfl zm_314 (Or.inl rfl) u31e zd_X9_matched_75 ?_
            replace hf := zo_b hf; obtain ⟨a32, na32, hf⟩ := hf
            refine W.eq (g2 := F0 m 78 ls [va_rf ((some a32))]) (by rw [na32] <;> rfl) ?_
            replace hf := zo_b hf; obtain ⟨v33, ev33, hf⟩ := hf
            obtain ⟨u34, u34e, u34v⟩ := zo_b ev33
            obtain rfl := zv_i_e u34v
            refine zw_get S hK hw zk_1 (k := 3) (by decide) rfl zm_187 (Or.inl rfl) u34e zd_X9_matched_78 ?_
            refine lv_goto (tgt := 91) hx hb zd_X9_matched_81 (by decide) ?_
            have hres := Option.some.inj hf; subst hres
            exact zw_iret (v := v33) (ty := .int) hx hb hr hlk rfl hw zd_X9_matched_91 (Nat.le_refl 0) (Nat.le_refl 0)
        · replace hf := zo_f c14 hf
          exact k45h () _ _ _ hf hw (lv_sub hl [2] rfl)
    · replace hf := zo_t c11 hf
      exact k30h () _ _ _ hf hw (lv_sub hl [2] rfl)
def zf_X9_through (h : zc_H) (q : Nat) (x1 : Int32) (x2 : Int32) (x3 : Int32) : Option (zc_H × Int32) :=
  if ¬ zf_is h q 9 = true then none else
  (zf_gr h q 9 1).bind fun v1 =>
  v1.bind fun a3 =>
  (zf_X6_revisionAt h a3 x1).bind fun r4 =>
  (zf_gr h q 9 1).bind fun v5 =>
  v5.bind fun a7 =>
  (zf_X6_revisionAt h a7 x2).bind fun r8 =>
  let k30 := fun (_ : Unit) =>
    (zf_X9_refuse h q (-11)).bind fun r10 =>
    some (r10.1, r10.2)
  if r4 = none then
    k30 ()
  else
  if r8 = none then
    k30 ()
  else
  r4.bind fun a12 =>
  (zf_X4_hasLine h a12 x3).bind fun r13 =>
  if r13 = 0 then
    (zf_X9_refuse h q (-15)).bind fun r25 =>
    some (r25.1, r25.2)
  else
  (zf_gr h q 9 8).bind fun v15 =>
  v15.bind fun a17 =>
  (zf_X8_layWay h a17 r4 r8).bind fun r18 =>
  if r18.2 = 0 then
    (zf_X9_refuse r18.1 q (-16)).bind fun r24 =>
    some (r24.1, r24.2)
  else
  (zf_gr r18.1 q 9 8).bind fun v20 =>
  v20.bind fun a22 =>
  (zf_X8_carried r18.1 a22 x3).bind fun r23 =>
  some (r18.1, r23)
abbrev zr_X9_through : Room := { frames := 9, cells := 17, slots := 680, locals := 251 }
theorem zi_X9_through {h : zc_H} {q : Nat} {x1 : Int32} {x2 : Int32} {x3 : Int32} {res : zc_H × Int32} (hf : zf_X9_through h q x1 x2 x3 = some res) : zf_is h q 9 = true := Decidable.not_not.mp (zo_n hf).1
set_option maxHeartbeats 4000000 in
set_option maxRecDepth 20000 in
theorem zt_X9_through (l : Launch) (g : zc_G) (h : zc_H) (q : Nat) (x1 : Int32) (x2 : Int32) (x3 : Int32) (res : zc_H × Int32) (hf : zf_X9_through h q x1 x2 x3 = some res) : zc_M l g yX9_through cX9_through 6 (some .int) zr_X9_through h [va_rf ((some q)), .int (x1), .int (x2), .int (x3)] res.1 (some (.int (res.2))) := by
  refine zc_M.of (by decide) (by simp [lg_sl, zv_cat, zv_ci, zv_cj]) ?_
  intro p e s m below meth c ls S hK hw hr hlk hnm hl
  replace S : CallFix p m c cX9_through 6 s [va_rf ((some q)), .int (x1), .int (x2), .int (x3)].toArray (zc_ws yX9_through cX9_through 6 (some .int)) RX9 := S
  have hx := S.1
  have hb := S.2.1
  replace hl : lv_has ls 6 [(0, va_rf ((some q))), (1, .int (x1)), (2, .int (x2)), (3, .int (x3))] := by simpa [lv_args, zv_cat, zv_ci, zv_cj] using hl
  generalize s.heap = H at hw ⊢
  obtain ⟨locs, hlocs⟩ : ∃ L : List Loc, L = [] := ⟨_, rfl⟩
  rw [← hlocs] at hw ⊢
  unfold zf_X9_through at hf
  obtain ⟨-, hf⟩ := zo_n hf
  refine zl_aload_n hx hb zd_X9_through_0 rfl (lv_at hl 0 rfl) ?_
  replace hf := zo_b hf; obtain ⟨v1, ev1, hf⟩ := hf
  obtain ⟨u2, u2e, u2v⟩ := zo_b ev1
  obtain rfl := zv_r_e u2v
  refine zw_get S hK hw zk_9 (k := 1) (by decide) rfl zm_308 (Or.inl rfl) u2e zd_X9_through_1 ?_
  refine lv_iload_n hx hb zd_X9_through_4 rfl (lv_at hl 1 rfl) ?_
  replace hf := zo_b hf; obtain ⟨a3, na3, hf⟩ := hf
  refine W.eq (g2 := F0 m 5 ls [.int (x1), va_rf ((some a3))]) (by rw [na3] <;> rfl) ?_
  replace hf := zo_b hf; obtain ⟨r4, er4, hf⟩ := hf
  refine zw_callV (n := 1) (ci := 6) (q := zc_cl[6]) (As := [.int (x1)]) (rest := []) S hK hw (zt_X6_revisionAt l g h a3 x1 _ er4) zm_482 zm_483 zm_484 zq_X6_revisionAt zm_69 (by decide +kernel) ⟨Nat.le_of_ble_eq_true rfl, Nat.le_of_ble_eq_true rfl⟩ rfl rfl rfl (zi_X6_revisionAt er4) hl.1 rfl (by simp [zv_cat, zv_ci, zv_cj]) zd_X9_through_5 ⟨(by show 0 + (0 : Nat) ≤ (17 : Nat); omega), (by show 0 + (0 : Nat) ≤ (680 : Nat); omega)⟩ (fun H locs hw => ?_)
  replace hw : zc_W g h H locs := hw
  refine W.widen (k := (0 + 0)) (n := (0 + 0)) (Nat.le_refl _) (Nat.le_refl _) ?_
  refine zl_astore (i := 4) (lv' := [(4, va_rf (r4)), (0, va_rf ((some q))), (1, .int (x1)), (2, .int (x2)), (3, .int (x3))]) hx hb zd_X9_through_8 hl (by decide) rfl (fun ls hl => ?_)
  refine zl_aload_n hx hb zd_X9_through_10 rfl (lv_at hl 1 rfl) ?_
  replace hf := zo_b hf; obtain ⟨v5, ev5, hf⟩ := hf
  obtain ⟨u6, u6e, u6v⟩ := zo_b ev5
  obtain rfl := zv_r_e u6v
  refine zw_get S hK hw zk_9 (k := 1) (by decide) rfl zm_308 (Or.inl rfl) u6e zd_X9_through_11 ?_
  refine lv_iload_n hx hb zd_X9_through_14 rfl (lv_at hl 3 rfl) ?_
  replace hf := zo_b hf; obtain ⟨a7, na7, hf⟩ := hf
  refine W.eq (g2 := F0 m 15 ls [.int (x2), va_rf ((some a7))]) (by rw [na7] <;> rfl) ?_
  replace hf := zo_b hf; obtain ⟨r8, er8, hf⟩ := hf
  refine zw_callV (n := 1) (ci := 6) (q := zc_cl[6]) (As := [.int (x2)]) (rest := []) S hK hw (zt_X6_revisionAt l g h a7 x2 _ er8) zm_482 zm_483 zm_484 zq_X6_revisionAt zm_69 (by decide +kernel) ⟨Nat.le_of_ble_eq_true rfl, Nat.le_of_ble_eq_true rfl⟩ rfl rfl rfl (zi_X6_revisionAt er8) hl.1 rfl (by simp [zv_cat, zv_ci, zv_cj]) zd_X9_through_15 ⟨(by show (0 + 0) + (0 : Nat) ≤ (17 : Nat); omega), (by show (0 + 0) + (0 : Nat) ≤ (680 : Nat); omega)⟩ (fun H locs hw => ?_)
  replace hw : zc_W g h H locs := hw
  refine W.widen (k := ((0 + 0) + 0)) (n := ((0 + 0) + 0)) (Nat.le_refl _) (Nat.le_refl _) ?_
  refine zl_astore (i := 5) (lv' := [(5, va_rf (r8)), (4, va_rf (r4)), (0, va_rf ((some q))), (1, .int (x1)), (2, .int (x2)), (3, .int (x3))]) hx hb zd_X9_through_18 hl (by decide) (by simp [List.filter, zv_cat, zv_ci, zv_cj]) (fun ls hl => ?_)
  refine zl_aload hx hb zd_X9_through_20 (lv_at hl 1 rfl) ?_
  have k30h : ∀ (_ : Unit) (H : Heap) (locs : List Loc) (ls : Array Slot), (
      (zf_X9_refuse h q (-11)).bind fun r10 =>
      some (r10.1, r10.2)
      ) = some res → zc_W g h H locs → lv_has ls 6 [(0, va_rf ((some q)))] → W p l e zr_X9_through s m [va_rf ((some q)), .int (x1), .int (x2), .int (x3)].toArray below meth c H locs ((0 + 0) + 0) ((0 + 0) + 0) (zc_Q g below zr_X9_through (some (.int (res.2))) res.1 [va_rf ((some q)), .int (x1), .int (x2), .int (x3)] s) (F0 m 30 ls []) := by
    intro _ H locs ls hf hw hl
    refine zl_aload_n hx hb zd_X9_through_30 rfl (lv_at hl 0 rfl) ?_
    refine lv_bipush (v := (-11)) hx hb zd_X9_through_31 (by decide) ?_
    replace hf := zo_b hf; obtain ⟨r10, er10, hf⟩ := hf
    refine zw_callV (n := 1) (ci := 9) (q := zc_cl[9]) (As := [.int ((-11))]) (rest := []) S hK hw (zt_X9_refuse l g h q (-11) _ er10) zm_349 zm_351 zm_1 zq_X9_refuse zm_68 (by decide +kernel) ⟨Nat.le_of_ble_eq_true rfl, Nat.le_of_ble_eq_true rfl⟩ rfl rfl rfl (zi_X9_refuse er10) hl.1 rfl (by simp [zv_cat, zv_ci, zv_cj]) zd_X9_through_33 ⟨(by show ((0 + 0) + 0) + (0 : Nat) ≤ (17 : Nat); omega), (by show ((0 + 0) + 0) + (0 : Nat) ≤ (680 : Nat); omega)⟩ (fun H locs hw => ?_)
    replace hw : zc_W g r10.1 H locs := hw
    refine W.widen (k := (((0 + 0) + 0) + 0)) (n := (((0 + 0) + 0) + 0)) (Nat.le_refl _) (Nat.le_refl _) ?_
    have hres := Option.some.inj hf; subst hres
    exact zw_iret (v := r10.2) (ty := .int) hx hb hr hlk rfl hw zd_X9_through_36 (by show _ ≤ (17 : Nat); omega) (by show _ ≤ (680 : Nat); omega)
  refine zl_ifnull (tgt := 30) hx hb zd_X9_through_22 (by decide) (fun c9 => ?_) (fun c9 => ?_)
  · replace hf := zo_t c9 hf
    exact k30h () _ _ _ hf hw (lv_sub hl [2] rfl)
  · replace hf := zo_f c9 hf
    refine zl_aload hx hb zd_X9_through_25 (lv_at hl 0 rfl) ?_
    refine zl_ifnonnull (tgt := 37) hx hb zd_X9_through_27 (by decide) (fun c11 => ?_) (fun c11 => ?_)
    · replace hf := zo_f c11 hf
      refine zl_aload hx hb zd_X9_through_37 (lv_at hl 1 rfl) ?_
      refine lv_iload_n hx hb zd_X9_through_39 rfl (lv_at hl 5 rfl) ?_
      replace hf := zo_b hf; obtain ⟨a12, na12, hf⟩ := hf
      refine W.eq (g2 := F0 m 40 ls [.int (x3), va_rf ((some a12))]) (by rw [na12] <;> rfl) ?_
      replace hf := zo_b hf; obtain ⟨r13, er13, hf⟩ := hf
      refine zw_callV (n := 1) (ci := 4) (q := zc_cl[4]) (As := [.int (x3)]) (rest := []) S hK hw (zt_X4_hasLine l g h a12 x3 _ er13) zm_667 zm_668 zm_669 zq_X4_hasLine zm_84 (by decide +kernel) ⟨Nat.le_of_ble_eq_true rfl, Nat.le_of_ble_eq_true rfl⟩ rfl rfl rfl (zi_X4_hasLine er13) hl.1 rfl (by simp [zv_cat, zv_ci, zv_cj]) zd_X9_through_40 ⟨(by show ((0 + 0) + 0) + (0 : Nat) ≤ (17 : Nat); omega), (by show ((0 + 0) + 0) + (0 : Nat) ≤ (680 : Nat); omega)⟩ (fun H locs hw => ?_)
      replace hw : zc_W g h H locs := hw
      refine W.widen (k := (((0 + 0) + 0) + 0)) (n := (((0 + 0) + 0) + 0)) (Nat.le_refl _) (Nat.le_refl _) ?_
      refine lv_if_ne (tgt := 53) hx hb zd_X9_through_43 (by decide) (fun c14 => ?_) (fun c14 => ?_)
      · replace hf := zo_f c14 hf
        refine zl_aload_n hx hb zd_X9_through_53 rfl (lv_at hl 2 rfl) ?_
        replace hf := zo_b hf; obtain ⟨v15, ev15, hf⟩ := hf
        obtain ⟨u16, u16e, u16v⟩ := zo_b ev15
        obtain rfl := zv_r_e u16v
        refine zw_get S hK hw zk_9 (k := 8) (by decide) rfl zm_315 (Or.inl rfl) u16e zd_X9_through_54 ?_
        refine zl_aload hx hb zd_X9_through_57 (lv_at hl 1 rfl) ?_
        refine zl_aload hx hb zd_X9_through_59 (lv_at hl 0 rfl) ?_
        replace hf := zo_b hf; obtain ⟨a17, na17, hf⟩ := hf
        refine W.eq (g2 := F0 m 61 ls [va_rf (r8), va_rf (r4), va_rf ((some a17))]) (by rw [na17] <;> rfl) ?_
        replace hf := zo_b hf; obtain ⟨r18, er18, hf⟩ := hf
        refine zw_callV (n := 2) (ci := 8) (q := zc_cl[8]) (As := [va_rf (r4), va_rf (r8)]) (rest := []) S hK hw (zt_X8_layWay l g h a17 r4 r8 _ er18) zm_714 zm_715 zm_716 zq_X8_layWay zm_75 (by decide +kernel) ⟨Nat.le_of_ble_eq_true rfl, Nat.le_of_ble_eq_true rfl⟩ rfl rfl rfl (zi_X8_layWay er18) hl.1 rfl (by simp [zv_cat, zv_ci, zv_cj]) zd_X9_through_61 ⟨(by show (((0 + 0) + 0) + 0) + (17 : Nat) ≤ (17 : Nat); omega), (by show (((0 + 0) + 0) + 0) + (680 : Nat) ≤ (680 : Nat); omega)⟩ (fun H locs hw => ?_)
        replace hw : zc_W g r18.1 H locs := hw
        refine W.widen (k := ((((0 + 0) + 0) + 0) + 17)) (n := ((((0 + 0) + 0) + 0) + 680)) (Nat.le_refl _) (Nat.le_refl _) ?_
        refine lv_if_ne (tgt := 74) hx hb zd_X9_through_64 (by decide) (fun c19 => ?_) (fun c19 => ?_)
        · replace hf := zo_f c19 hf
          refine zl_aload_n hx hb zd_X9_through_74 rfl (lv_at hl 2 rfl) ?_
          replace hf := zo_b hf; obtain ⟨v20, ev20, hf⟩ := hf
          obtain ⟨u21, u21e, u21v⟩ := zo_b ev20
          obtain rfl := zv_r_e u21v
          refine zw_get S hK hw zk_9 (k := 8) (by decide) rfl zm_315 (Or.inl rfl) u21e zd_X9_through_75 ?_
          refine lv_iload_n hx hb zd_X9_through_78 rfl (lv_at hl 5 rfl) ?_
          replace hf := zo_b hf; obtain ⟨a22, na22, hf⟩ := hf
          refine W.eq (g2 := F0 m 79 ls [.int (x3), va_rf ((some a22))]) (by rw [na22] <;> rfl) ?_
          replace hf := zo_b hf; obtain ⟨r23, er23, hf⟩ := hf
          refine zw_callV (n := 1) (ci := 8) (q := zc_cl[8]) (As := [.int (x3)]) (rest := []) S hK hw (zt_X8_carried l g r18.1 a22 x3 _ er23) zm_723 zm_724 zm_725 zq_X8_carried zm_75 (by decide +kernel) ⟨Nat.le_of_ble_eq_true rfl, Nat.le_of_ble_eq_true rfl⟩ rfl rfl rfl (zi_X8_carried er23) hl.1 rfl (by simp [zv_cat, zv_ci, zv_cj]) zd_X9_through_79 ⟨(by show ((((0 + 0) + 0) + 0) + 17) + (0 : Nat) ≤ (17 : Nat); omega), (by show ((((0 + 0) + 0) + 0) + 680) + (0 : Nat) ≤ (680 : Nat); omega)⟩ (fun H locs hw => ?_)
          replace hw : zc_W g r18.1 H locs := hw
          refine W.widen (k := (((((0 + 0) + 0) + 0) + 17) + 0)) (n := (((((0 + 0) + 0) + 0) + 680) + 0)) (Nat.le_refl _) (Nat.le_refl _) ?_
          have hres := Option.some.inj hf; subst hres
          exact zw_iret (v := r23) (ty := .int) hx hb hr hlk rfl hw zd_X9_through_82 (by show _ ≤ (17 : Nat); omega) (by show _ ≤ (680 : Nat); omega)
        · replace hf := zo_t c19 hf
          refine zl_aload_n hx hb zd_X9_through_67 rfl (lv_at hl 2 rfl) ?_
          refine lv_bipush (v := (-16)) hx hb zd_X9_through_68 (by decide) ?_
          replace hf := zo_b hf; obtain ⟨r24, er24, hf⟩ := hf
          refine zw_callV (n := 1) (ci := 9) (q := zc_cl[9]) (As := [.int ((-16))]) (rest := []) S hK hw (zt_X9_refuse l g r18.1 q (-16) _ er24) zm_349 zm_351 zm_1 zq_X9_refuse zm_68 (by decide +kernel) ⟨Nat.le_of_ble_eq_true rfl, Nat.le_of_ble_eq_true rfl⟩ rfl rfl rfl (zi_X9_refuse er24) hl.1 rfl (by simp [zv_cat, zv_ci, zv_cj]) zd_X9_through_70 ⟨(by show ((((0 + 0) + 0) + 0) + 17) + (0 : Nat) ≤ (17 : Nat); omega), (by show ((((0 + 0) + 0) + 0) + 680) + (0 : Nat) ≤ (680 : Nat); omega)⟩ (fun H locs hw => ?_)
          replace hw : zc_W g r24.1 H locs := hw
          refine W.widen (k := (((((0 + 0) + 0) + 0) + 17) + 0)) (n := (((((0 + 0) + 0) + 0) + 680) + 0)) (Nat.le_refl _) (Nat.le_refl _) ?_
          have hres := Option.some.inj hf; subst hres
          exact zw_iret (v := r24.2) (ty := .int) hx hb hr hlk rfl hw zd_X9_through_73 (by show _ ≤ (17 : Nat); omega) (by show _ ≤ (680 : Nat); omega)
      · replace hf := zo_t c14 hf
        refine zl_aload_n hx hb zd_X9_through_46 rfl (lv_at hl 2 rfl) ?_
        refine lv_bipush (v := (-15)) hx hb zd_X9_through_47 (by decide) ?_
        replace hf := zo_b hf; obtain ⟨r25, er25, hf⟩ := hf
        refine zw_callV (n := 1) (ci := 9) (q := zc_cl[9]) (As := [.int ((-15))]) (rest := []) S hK hw (zt_X9_refuse l g h q (-15) _ er25) zm_349 zm_351 zm_1 zq_X9_refuse zm_68 (by decide +kernel) ⟨Nat.le_of_ble_eq_true rfl, Nat.le_of_ble_eq_true rfl⟩ rfl rfl rfl (zi_X9_refuse er25) hl.1 rfl (by simp [zv_cat, zv_ci, zv_cj]) zd_X9_through_49 ⟨(by show (((0 + 0) + 0) + 0) + (0 : Nat) ≤ (17 : Nat); omega), (by show (((0 + 0) + 0) + 0) + (0 : Nat) ≤ (680 : Nat); omega)⟩ (fun H locs hw => ?_)
        replace hw : zc_W g r25.1 H locs := hw
        refine W.widen (k := ((((0 + 0) + 0) + 0) + 0)) (n := ((((0 + 0) + 0) + 0) + 0)) (Nat.le_refl _) (Nat.le_refl _) ?_
        have hres := Option.some.inj hf; subst hres
        exact zw_iret (v := r25.2) (ty := .int) hx hb hr hlk rfl hw zd_X9_through_52 (by show _ ≤ (17 : Nat); omega) (by show _ ≤ (680 : Nat); omega)
    · replace hf := zo_t c11 hf
      exact k30h () _ _ _ hf hw (lv_sub hl [2] rfl)
def zf_X9_origin_L65 (h : zc_H) (q : Nat) (y3 : Int32) : Nat → Option Nat → Int32 → Int32 → Option Nat → Option (Option Nat × Int32)
  | 0, _, _, _, _ => none
  | n + 1, y4, y5, y6, y7 =>
    if y7 = none then
      some (y4, y5)
    else
    if y6 = (-1) then
      some (y4, y5)
    else
    y7.bind fun a17 =>
    (zf_X4_sourceOf h a17 y6).bind fun r18 =>
    (zf_gr h a17 4 1).bind fun v19 =>
    zf_X9_origin_L65 h q y3 n y7 y6 r18 v19
def zf_X9_origin (h : zc_H) (q : Nat) (x1 : Int32) (x2 : Int32) (x3 : Int32) : Option (zc_H × Int32) :=
  if ¬ zf_is h q 9 = true then none else
  (zf_gr h q 9 1).bind fun v1 =>
  v1.bind fun a3 =>
  (zf_X6_revisionAt h a3 x1).bind fun r4 =>
  if r4 = none then
    (zf_X9_refuse h q (-1)).bind fun r26 =>
    some (r26.1, r26.2)
  else
  r4.bind fun a6 =>
  (zf_X4_hasLine h a6 x2).bind fun r7 =>
  let k39 := fun (_ : Unit) =>
    (zf_X9_refuse h q (-5)).bind fun r9 =>
    some (r9.1, r9.2)
  if r7 = 0 then
    k39 ()
  else
  if x3 < 0 then
    k39 ()
  else
  if x3 ≤ 1 then
    (zf_X4_sourceOf h a6 x2).bind fun r12 =>
    (zf_gr h a6 4 1).bind fun v13 =>
    (zf_X9_origin_L65 h q x3 2000 r4 x2 r12 v13).bind fun w21 =>
    if x3 = 0 then
      w21.1.bind fun a23 =>
      (zf_gi h a23 4 0).bind fun v24 =>
      some (h, v24)
    else
    some (h, w21.2)
  else
  k39 ()
abbrev zr_X9_origin : Room := { frames := 4, cells := 0, slots := 0, locals := 85 }
theorem zi_X9_origin {h : zc_H} {q : Nat} {x1 : Int32} {x2 : Int32} {x3 : Int32} {res : zc_H × Int32} (hf : zf_X9_origin h q x1 x2 x3 = some res) : zf_is h q 9 = true := Decidable.not_not.mp (zo_n hf).1
set_option maxHeartbeats 4000000 in
set_option maxRecDepth 20000 in
theorem zt_X9_origin (l : Launch) (g : zc_G) (h : zc_H) (q : Nat) (x1 : Int32) (x2 : Int32) (x3 : Int32) (res : zc_H × Int32) (hf : zf_X9_origin h q x1 x2 x3 = some res) : zc_M l g yX9_origin cX9_origin 8 (some .int) zr_X9_origin h [va_rf ((some q)), .int (x1), .int (x2), .int (x3)] res.1 (some (.int (res.2))) := by
  refine zc_M.of (by decide) (by simp [lg_sl, zv_cat, zv_ci, zv_cj]) ?_
  intro p e s m below meth c ls S hK hw hr hlk hnm hl
  replace S : CallFix p m c cX9_origin 8 s [va_rf ((some q)), .int (x1), .int (x2), .int (x3)].toArray (zc_ws yX9_origin cX9_origin 8 (some .int)) RX9 := S
  have hx := S.1
  have hb := S.2.1
  replace hl : lv_has ls 8 [(0, va_rf ((some q))), (1, .int (x1)), (2, .int (x2)), (3, .int (x3))] := by simpa [lv_args, zv_cat, zv_ci, zv_cj] using hl
  generalize s.heap = H at hw ⊢
  obtain ⟨locs, hlocs⟩ : ∃ L : List Loc, L = [] := ⟨_, rfl⟩
  rw [← hlocs] at hw ⊢
  have L65 : ∀ (h : zc_H) (y3 : Int32) (n : Nat) (y4 : Option Nat) (y5 : Int32) (y6 : Int32) (y7 : Option Nat) (w : Option Nat × Int32) (H : Heap) (locs : List Loc) (ls : Array Slot), zf_X9_origin_L65 h q y3 n y4 y5 y6 y7 = some w → zc_W g h H locs → lv_has ls 8 [(3, .int (y3)), (4, va_rf (y4)), (5, .int (y5)), (6, .int (y6)), (7, va_rf (y7))] → (∀ (H : Heap) (locs : List Loc) (ls : Array Slot), zc_W g h H locs → lv_has ls 8 [(3, .int (y3)), (4, va_rf (w.1)), (5, .int (w.2))] → W p l e zr_X9_origin s m [va_rf ((some q)), .int (x1), .int (x2), .int (x3)].toArray below meth c H locs 0 0 (zc_Q g below zr_X9_origin (some (.int (res.2))) res.1 [va_rf ((some q)), .int (x1), .int (x2), .int (x3)] s) (F0 m 103 ls [])) → W p l e zr_X9_origin s m [va_rf ((some q)), .int (x1), .int (x2), .int (x3)].toArray below meth c H locs 0 0 (zc_Q g below zr_X9_origin (some (.int (res.2))) res.1 [va_rf ((some q)), .int (x1), .int (x2), .int (x3)] s) (F0 m 65 ls []) := by
    intro h y3 n
    induction n with
    | zero =>
      intro y4 y5 y6 y7 w H locs ls hf
      cases hf
    | succ n ih =>
      intro y4 y5 y6 y7 w H locs ls hf hw hl  kk
      unfold zf_X9_origin_L65 at hf
      refine zl_aload hx hb zd_X9_origin_65 (lv_at hl 4 rfl) ?_
      refine zl_ifnull (tgt := 103) hx hb zd_X9_origin_67 (by decide) (fun c15 => ?_) (fun c15 => ?_)
      · replace hf := zo_t c15 hf
        have hres := Option.some.inj hf; subst hres
        exact kk _ _ _ hw (lv_sub hl [0, 1, 2] rfl)
      · replace hf := zo_f c15 hf
        refine lv_iload hx hb zd_X9_origin_70 (lv_at hl 3 rfl) ?_
        refine lv_iconst (v := (-1)) hx hb zd_X9_origin_72 (by decide) ?_
        refine lv_icmp_eq (tgt := 103) hx hb zd_X9_origin_73 (by decide) (fun c16 => ?_) (fun c16 => ?_)
        · replace hf := zo_t c16 hf
          have hres := Option.some.inj hf; subst hres
          exact kk _ _ _ hw (lv_sub hl [0, 1, 2] rfl)
        · replace hf := zo_f c16 hf
          refine zl_aload hx hb zd_X9_origin_76 (lv_at hl 4 rfl) ?_
          refine zl_astore (i := 4) (lv' := [(4, va_rf (y7)), (3, .int (y3)), (5, .int (y5)), (6, .int (y6)), (7, va_rf (y7))]) hx hb zd_X9_origin_78 hl (by decide) rfl (fun ls hl => ?_)
          refine lv_iload hx hb zd_X9_origin_80 (lv_at hl 3 rfl) ?_
          refine lv_istore (i := 5) (lv' := [(5, .int (y6)), (4, va_rf (y7)), (3, .int (y3)), (6, .int (y6)), (7, va_rf (y7))]) hx hb zd_X9_origin_82 hl (by decide) (by simp [List.filter, zv_cat, zv_ci, zv_cj]) (fun ls hl => ?_)
          refine zl_aload hx hb zd_X9_origin_84 (lv_at hl 1 rfl) ?_
          refine lv_iload hx hb zd_X9_origin_86 (lv_at hl 0 rfl) ?_
          replace hf := zo_b hf; obtain ⟨a17, na17, hf⟩ := hf
          refine W.eq (g2 := F0 m 88 ls [.int (y6), va_rf ((some a17))]) (by rw [na17] <;> rfl) ?_
          replace hf := zo_b hf; obtain ⟨r18, er18, hf⟩ := hf
          refine zw_callV (n := 1) (ci := 4) (q := zc_cl[4]) (As := [.int (y6)]) (rest := []) S hK hw (zt_X4_sourceOf l g h a17 y6 _ er18) zm_738 zm_739 zm_740 zq_X4_sourceOf zm_84 (by decide +kernel) ⟨Nat.le_of_ble_eq_true rfl, Nat.le_of_ble_eq_true rfl⟩ rfl rfl rfl (zi_X4_sourceOf er18) hl.1 rfl (by simp [zv_cat, zv_ci, zv_cj]) zd_X9_origin_88 ⟨(Nat.le_refl 0), (Nat.le_refl 0)⟩ (fun H locs hw => ?_)
          replace hw : zc_W g h H locs := hw
          refine lv_istore (i := 6) (lv' := [(6, .int (r18)), (5, .int (y6)), (4, va_rf (y7)), (3, .int (y3)), (7, va_rf (y7))]) hx hb zd_X9_origin_91 hl (by decide) rfl (fun ls hl => ?_)
          refine zl_aload hx hb zd_X9_origin_93 (lv_at hl 2 rfl) ?_
          refine W.eq (g2 := F0 m 95 ls [va_rf ((some a17))]) (by rw [na17] <;> rfl) ?_
          replace hf := zo_b hf; obtain ⟨v19, ev19, hf⟩ := hf
          obtain ⟨u20, u20e, u20v⟩ := zo_b ev19
          obtain rfl := zv_r_e u20v
          refine zw_get S hK hw zk_4 (k := 1) (by decide) rfl zm_534 (Or.inl rfl) u20e zd_X9_origin_95 ?_
          refine zl_astore (i := 7) (lv' := [(7, va_rf (v19)), (6, .int (r18)), (5, .int (y6)), (4, va_rf (y7)), (3, .int (y3))]) hx hb zd_X9_origin_98 hl (by decide) rfl (fun ls hl => ?_)
          refine lv_goto (tgt := 65) hx hb zd_X9_origin_100 (by decide) ?_
          exact ih y7 y6 r18 v19 _ _ _ _ hf hw (lv_sub hl [4, 3, 2, 1, 0] rfl) kk
  unfold zf_X9_origin at hf
  obtain ⟨-, hf⟩ := zo_n hf
  refine zl_aload_n hx hb zd_X9_origin_0 rfl (lv_at hl 0 rfl) ?_
  replace hf := zo_b hf; obtain ⟨v1, ev1, hf⟩ := hf
  obtain ⟨u2, u2e, u2v⟩ := zo_b ev1
  obtain rfl := zv_r_e u2v
  refine zw_get S hK hw zk_9 (k := 1) (by decide) rfl zm_308 (Or.inl rfl) u2e zd_X9_origin_1 ?_
  refine lv_iload_n hx hb zd_X9_origin_4 rfl (lv_at hl 1 rfl) ?_
  replace hf := zo_b hf; obtain ⟨a3, na3, hf⟩ := hf
  refine W.eq (g2 := F0 m 5 ls [.int (x1), va_rf ((some a3))]) (by rw [na3] <;> rfl) ?_
  replace hf := zo_b hf; obtain ⟨r4, er4, hf⟩ := hf
  refine zw_callV (n := 1) (ci := 6) (q := zc_cl[6]) (As := [.int (x1)]) (rest := []) S hK hw (zt_X6_revisionAt l g h a3 x1 _ er4) zm_482 zm_483 zm_484 zq_X6_revisionAt zm_69 (by decide +kernel) ⟨Nat.le_of_ble_eq_true rfl, Nat.le_of_ble_eq_true rfl⟩ rfl rfl rfl (zi_X6_revisionAt er4) hl.1 rfl (by simp [zv_cat, zv_ci, zv_cj]) zd_X9_origin_5 ⟨(Nat.le_refl 0), (Nat.le_refl 0)⟩ (fun H locs hw => ?_)
  replace hw : zc_W g h H locs := hw
  refine zl_astore (i := 4) (lv' := [(4, va_rf (r4)), (0, va_rf ((some q))), (1, .int (x1)), (2, .int (x2)), (3, .int (x3))]) hx hb zd_X9_origin_8 hl (by decide) rfl (fun ls hl => ?_)
  refine zl_aload hx hb zd_X9_origin_10 (lv_at hl 0 rfl) ?_
  refine zl_ifnonnull (tgt := 21) hx hb zd_X9_origin_12 (by decide) (fun c5 => ?_) (fun c5 => ?_)
  · replace hf := zo_f c5 hf
    refine zl_aload hx hb zd_X9_origin_21 (lv_at hl 0 rfl) ?_
    refine lv_iload_n hx hb zd_X9_origin_23 rfl (lv_at hl 3 rfl) ?_
    replace hf := zo_b hf; obtain ⟨a6, na6, hf⟩ := hf
    refine W.eq (g2 := F0 m 24 ls [.int (x2), va_rf ((some a6))]) (by rw [na6] <;> rfl) ?_
    replace hf := zo_b hf; obtain ⟨r7, er7, hf⟩ := hf
    refine zw_callV (n := 1) (ci := 4) (q := zc_cl[4]) (As := [.int (x2)]) (rest := []) S hK hw (zt_X4_hasLine l g h a6 x2 _ er7) zm_667 zm_668 zm_669 zq_X4_hasLine zm_84 (by decide +kernel) ⟨Nat.le_of_ble_eq_true rfl, Nat.le_of_ble_eq_true rfl⟩ rfl rfl rfl (zi_X4_hasLine er7) hl.1 rfl (by simp [zv_cat, zv_ci, zv_cj]) zd_X9_origin_24 ⟨(Nat.le_refl 0), (Nat.le_refl 0)⟩ (fun H locs hw => ?_)
    replace hw : zc_W g h H locs := hw
    have k39h : ∀ (_ : Unit) (H : Heap) (locs : List Loc) (ls : Array Slot), (
        (zf_X9_refuse h q (-5)).bind fun r9 =>
        some (r9.1, r9.2)
        ) = some res → zc_W g h H locs → lv_has ls 8 [(0, va_rf ((some q)))] → W p l e zr_X9_origin s m [va_rf ((some q)), .int (x1), .int (x2), .int (x3)].toArray below meth c H locs ((0 + 0) + 0) ((0 + 0) + 0) (zc_Q g below zr_X9_origin (some (.int (res.2))) res.1 [va_rf ((some q)), .int (x1), .int (x2), .int (x3)] s) (F0 m 39 ls []) := by
      intro _ H locs ls hf hw hl
      refine zl_aload_n hx hb zd_X9_origin_39 rfl (lv_at hl 0 rfl) ?_
      refine lv_bipush (v := (-5)) hx hb zd_X9_origin_40 (by decide) ?_
      replace hf := zo_b hf; obtain ⟨r9, er9, hf⟩ := hf
      refine zw_callV (n := 1) (ci := 9) (q := zc_cl[9]) (As := [.int ((-5))]) (rest := []) S hK hw (zt_X9_refuse l g h q (-5) _ er9) zm_349 zm_351 zm_1 zq_X9_refuse zm_68 (by decide +kernel) ⟨Nat.le_of_ble_eq_true rfl, Nat.le_of_ble_eq_true rfl⟩ rfl rfl rfl (zi_X9_refuse er9) hl.1 rfl (by simp [zv_cat, zv_ci, zv_cj]) zd_X9_origin_42 ⟨(Nat.le_refl 0), (Nat.le_refl 0)⟩ (fun H locs hw => ?_)
      replace hw : zc_W g r9.1 H locs := hw
      have hres := Option.some.inj hf; subst hres
      exact zw_iret (v := r9.2) (ty := .int) hx hb hr hlk rfl hw zd_X9_origin_45 (Nat.le_refl 0) (Nat.le_refl 0)
    refine lv_if_eq (tgt := 39) hx hb zd_X9_origin_27 (by decide) (fun c8 => ?_) (fun c8 => ?_)
    · replace hf := zo_t c8 hf
      exact k39h () _ _ _ hf hw (lv_sub hl [1] rfl)
    · replace hf := zo_f c8 hf
      refine lv_iload_n hx hb zd_X9_origin_30 rfl (lv_at hl 4 rfl) ?_
      refine lv_if_lt (tgt := 39) hx hb zd_X9_origin_31 (by decide) (fun c10 => ?_) (fun c10 => ?_)
      · replace hf := zo_t c10 hf
        exact k39h () _ _ _ hf hw (lv_sub hl [1] rfl)
      · replace hf := zo_f c10 hf
        refine lv_iload_n hx hb zd_X9_origin_34 rfl (lv_at hl 4 rfl) ?_
        refine lv_iconst (v := 1) hx hb zd_X9_origin_35 (by decide) ?_
        refine lv_icmp_le (tgt := 46) hx hb zd_X9_origin_36 (by decide) (fun c11 => ?_) (fun c11 => ?_)
        · replace hf := zo_t c11 hf
          refine lv_iload_n hx hb zd_X9_origin_46 rfl (lv_at hl 3 rfl) ?_
          refine lv_istore (i := 5) (lv' := [(5, .int (x2)), (4, va_rf (r4)), (0, va_rf ((some q))), (1, .int (x1)), (2, .int (x2)), (3, .int (x3))]) hx hb zd_X9_origin_47 hl (by decide) (by simp [List.filter, zv_cat, zv_ci, zv_cj]) (fun ls hl => ?_)
          refine zl_aload hx hb zd_X9_origin_49 (lv_at hl 1 rfl) ?_
          refine lv_iload hx hb zd_X9_origin_51 (lv_at hl 0 rfl) ?_
          refine W.eq (g2 := F0 m 53 ls [.int (x2), va_rf ((some a6))]) (by rw [na6] <;> rfl) ?_
          replace hf := zo_b hf; obtain ⟨r12, er12, hf⟩ := hf
          refine zw_callV (n := 1) (ci := 4) (q := zc_cl[4]) (As := [.int (x2)]) (rest := []) S hK hw (zt_X4_sourceOf l g h a6 x2 _ er12) zm_738 zm_739 zm_740 zq_X4_sourceOf zm_84 (by decide +kernel) ⟨Nat.le_of_ble_eq_true rfl, Nat.le_of_ble_eq_true rfl⟩ rfl rfl rfl (zi_X4_sourceOf er12) hl.1 rfl (by simp [zv_cat, zv_ci, zv_cj]) zd_X9_origin_53 ⟨(Nat.le_refl 0), (Nat.le_refl 0)⟩ (fun H locs hw => ?_)
          replace hw : zc_W g h H locs := hw
          refine lv_istore (i := 6) (lv' := [(6, .int (r12)), (5, .int (x2)), (4, va_rf (r4)), (0, va_rf ((some q))), (1, .int (x1)), (2, .int (x2)), (3, .int (x3))]) hx hb zd_X9_origin_56 hl (by decide) rfl (fun ls hl => ?_)
          refine zl_aload hx hb zd_X9_origin_58 (lv_at hl 2 rfl) ?_
          refine W.eq (g2 := F0 m 60 ls [va_rf ((some a6))]) (by rw [na6] <;> rfl) ?_
          replace hf := zo_b hf; obtain ⟨v13, ev13, hf⟩ := hf
          obtain ⟨u14, u14e, u14v⟩ := zo_b ev13
          obtain rfl := zv_r_e u14v
          refine zw_get S hK hw zk_4 (k := 1) (by decide) rfl zm_534 (Or.inl rfl) u14e zd_X9_origin_60 ?_
          refine zl_astore (i := 7) (lv' := [(7, va_rf (v13)), (6, .int (r12)), (5, .int (x2)), (4, va_rf (r4)), (0, va_rf ((some q))), (1, .int (x1)), (2, .int (x2)), (3, .int (x3))]) hx hb zd_X9_origin_63 hl (by decide) rfl (fun ls hl => ?_)
          replace hf := zo_b hf; obtain ⟨w21, w21e, hf⟩ := hf
          refine L65 h x3 2000 r4 x2 r12 v13 _ _ _ _ w21e hw (lv_sub hl [7, 3, 2, 1, 0] rfl) (fun H locs ls hw hl => ?_)
          refine lv_iload_n hx hb zd_X9_origin_103 rfl (lv_at hl 0 rfl) ?_
          refine lv_if_ne (tgt := 115) hx hb zd_X9_origin_104 (by decide) (fun c22 => ?_) (fun c22 => ?_)
          · replace hf := zo_f c22 hf
            refine lv_iload hx hb zd_X9_origin_115 (lv_at hl 2 rfl) ?_
            have hres := Option.some.inj hf; subst hres
            exact zw_iret (v := w21.2) (ty := .int) hx hb hr hlk rfl hw zd_X9_origin_117 (Nat.le_refl 0) (Nat.le_refl 0)
          · replace hf := zo_t c22 hf
            refine zl_aload hx hb zd_X9_origin_107 (lv_at hl 1 rfl) ?_
            replace hf := zo_b hf; obtain ⟨a23, na23, hf⟩ := hf
            refine W.eq (g2 := F0 m 109 ls [va_rf ((some a23))]) (by rw [na23] <;> rfl) ?_
            replace hf := zo_b hf; obtain ⟨v24, ev24, hf⟩ := hf
            obtain ⟨u25, u25e, u25v⟩ := zo_b ev24
            obtain rfl := zv_i_e u25v
            refine zw_get S hK hw zk_4 (k := 0) (by decide) rfl zm_531 (Or.inl rfl) u25e zd_X9_origin_109 ?_
            refine lv_goto (tgt := 117) hx hb zd_X9_origin_112 (by decide) ?_
            have hres := Option.some.inj hf; subst hres
            exact zw_iret (v := v24) (ty := .int) hx hb hr hlk rfl hw zd_X9_origin_117 (Nat.le_refl 0) (Nat.le_refl 0)
        · replace hf := zo_f c11 hf
          exact k39h () _ _ _ hf hw (lv_sub hl [1] rfl)
  · replace hf := zo_t c5 hf
    refine zl_aload_n hx hb zd_X9_origin_15 rfl (lv_at hl 1 rfl) ?_
    refine lv_iconst (v := (-1)) hx hb zd_X9_origin_16 (by decide) ?_
    replace hf := zo_b hf; obtain ⟨r26, er26, hf⟩ := hf
    refine zw_callV (n := 1) (ci := 9) (q := zc_cl[9]) (As := [.int ((-1))]) (rest := []) S hK hw (zt_X9_refuse l g h q (-1) _ er26) zm_349 zm_351 zm_1 zq_X9_refuse zm_68 (by decide +kernel) ⟨Nat.le_of_ble_eq_true rfl, Nat.le_of_ble_eq_true rfl⟩ rfl rfl rfl (zi_X9_refuse er26) hl.1 rfl (by simp [zv_cat, zv_ci, zv_cj]) zd_X9_origin_17 ⟨(Nat.le_refl 0), (Nat.le_refl 0)⟩ (fun H locs hw => ?_)
    replace hw : zc_W g r26.1 H locs := hw
    have hres := Option.some.inj hf; subst hres
    exact zw_iret (v := r26.2) (ty := .int) hx hb hr hlk rfl hw zd_X9_origin_20 (Nat.le_refl 0) (Nat.le_refl 0)
def zf_X9_remark (h : zc_H) (q : Nat) (x1 : Int32) (x2 : Int32) (x3 : Int32) (x4 : Int32) (x5 : Int32) (x6 : Int32) : Option (zc_H × Int32) :=
  if ¬ zf_is h q 9 = true then none else
  (zf_gr h q 9 1).bind fun v1 =>
  v1.bind fun a3 =>
  (zf_X6_revisionAt h a3 x3).bind fun r4 =>
  (zf_X9_isKind h x1).bind fun r5 =>
  let k40 := fun (_ : Unit) =>
    (zf_X9_refuse h q (-1)).bind fun r7 =>
    some (r7.1, r7.2)
  if r5 = 0 then
    k40 ()
  else
  if r4 = none then
    k40 ()
  else
  let k46 := fun (_ : Unit) =>
    r4.bind fun a10 =>
    (zf_X4_hasLine h a10 x4).bind fun r11 =>
    let k73 := fun (_ : Unit) =>
      (zf_X9_refuse h q (-5)).bind fun r13 =>
      some (r13.1, r13.2)
    if r11 = 0 then
      k73 ()
    else
    (zf_X4_hasLine h a10 x5).bind fun r14 =>
    if r14 = 0 then
      k73 ()
    else
    if x4 ≤ x5 then
      let k90 := fun (_ : Unit) =>
        (zf_X9_refuse h q (-6)).bind fun r18 =>
        some (r18.1, r18.2)
      if x2 < 0 then
        k90 ()
      else
      if x2 ≤ 9 then
        (zf_gr h q 9 1).bind fun v20 =>
        v20.bind fun a22 =>
        (zf_gr h a22 6 1).bind fun v23 =>
        v23.bind fun a25 =>
        (zf_Jx4a65c_size_8abf5 h a25).bind fun r26 =>
        if r26 < 16 then
          (zf_gr h q 9 1).bind fun v28 =>
          v28.bind fun a30 =>
          (zf_gr h a30 6 1).bind fun v31 =>
          (some (zf_new h (.inr (3, [.int 0, .int 0, .int 0, .null, .int 0, .int 0])))).bind fun h33 =>
          (zf_X9_spanOf h33 x4 x5).bind fun r34 =>
          (zf_X3_init h33 h.2.1 r26 x1 x2 r4 r34 x6).bind fun r35 =>
          v31.bind fun a36 =>
          (zf_Jx4a65c_add_9ea2d r35 a36 (some h.2.1)).bind fun r37 =>
          some (r37.1, r26)
        else
        (zf_X9_refuse h q (-7)).bind fun r38 =>
        some (r38.1, r38.2)
      else
      k90 ()
    else
    k73 ()
  if x6 = (-1) then
    k46 ()
  else
  (zf_gr h q 9 1).bind fun v39 =>
  v39.bind fun a41 =>
  (zf_X6_remarkAt h a41 x6).bind fun r42 =>
  if r42 = none then
    k40 ()
  else
  k46 ()
abbrev zr_X9_remark : Room := { frames := 8, cells := 2, slots := 46, locals := 228 }
theorem zi_X9_remark {h : zc_H} {q : Nat} {x1 : Int32} {x2 : Int32} {x3 : Int32} {x4 : Int32} {x5 : Int32} {x6 : Int32} {res : zc_H × Int32} (hf : zf_X9_remark h q x1 x2 x3 x4 x5 x6 = some res) : zf_is h q 9 = true := Decidable.not_not.mp (zo_n hf).1
set_option maxHeartbeats 4000000 in
set_option maxRecDepth 20000 in
theorem zt_X9_remark (l : Launch) (g : zc_G) (h : zc_H) (q : Nat) (x1 : Int32) (x2 : Int32) (x3 : Int32) (x4 : Int32) (x5 : Int32) (x6 : Int32) (res : zc_H × Int32) (hf : zf_X9_remark h q x1 x2 x3 x4 x5 x6 = some res) : zc_M l g yX9_remark cX9_remark 9 (some .int) zr_X9_remark h [va_rf ((some q)), .int (x1), .int (x2), .int (x3), .int (x4), .int (x5), .int (x6)] res.1 (some (.int (res.2))) := by
  refine zc_M.of (by decide) (by simp [lg_sl, zv_cat, zv_ci, zv_cj]) ?_
  intro p e s m below meth c ls S hK hw hr hlk hnm hl
  replace S : CallFix p m c cX9_remark 9 s [va_rf ((some q)), .int (x1), .int (x2), .int (x3), .int (x4), .int (x5), .int (x6)].toArray (zc_ws yX9_remark cX9_remark 9 (some .int)) RX9 := S
  have hx := S.1
  have hb := S.2.1
  replace hl : lv_has ls 9 [(0, va_rf ((some q))), (1, .int (x1)), (2, .int (x2)), (3, .int (x3)), (4, .int (x4)), (5, .int (x5)), (6, .int (x6))] := by simpa [lv_args, zv_cat, zv_ci, zv_cj] using hl
  generalize s.heap = H at hw ⊢
  obtain ⟨locs, hlocs⟩ : ∃ L : List Loc, L = [] := ⟨_, rfl⟩
  rw [← hlocs] at hw ⊢
  unfold zf_X9_remark at hf
  obtain ⟨-, hf⟩ := zo_n hf
  refine zl_aload_n hx hb zd_X9_remark_0 rfl (lv_at hl 0 rfl) ?_
  replace hf := zo_b hf; obtain ⟨v1, ev1, hf⟩ := hf
  obtain ⟨u2, u2e, u2v⟩ := zo_b ev1
  obtain rfl := zv_r_e u2v
  refine zw_get S hK hw zk_9 (k := 1) (by decide) rfl zm_308 (Or.inl rfl) u2e zd_X9_remark_1 ?_
  refine lv_iload_n hx hb zd_X9_remark_4 rfl (lv_at hl 3 rfl) ?_
  replace hf := zo_b hf; obtain ⟨a3, na3, hf⟩ := hf
  refine W.eq (g2 := F0 m 5 ls [.int (x3), va_rf ((some a3))]) (by rw [na3] <;> rfl) ?_
  replace hf := zo_b hf; obtain ⟨r4, er4, hf⟩ := hf
  refine zw_callV (n := 1) (ci := 6) (q := zc_cl[6]) (As := [.int (x3)]) (rest := []) S hK hw (zt_X6_revisionAt l g h a3 x3 _ er4) zm_482 zm_483 zm_484 zq_X6_revisionAt zm_69 (by decide +kernel) ⟨Nat.le_of_ble_eq_true rfl, Nat.le_of_ble_eq_true rfl⟩ rfl rfl rfl (zi_X6_revisionAt er4) hl.1 rfl (by simp [zv_cat, zv_ci, zv_cj]) zd_X9_remark_5 ⟨(by show 0 + (0 : Nat) ≤ (2 : Nat); omega), (by show 0 + (0 : Nat) ≤ (46 : Nat); omega)⟩ (fun H locs hw => ?_)
  replace hw : zc_W g h H locs := hw
  refine W.widen (k := (0 + 0)) (n := (0 + 0)) (Nat.le_refl _) (Nat.le_refl _) ?_
  refine zl_astore (i := 7) (lv' := [(7, va_rf (r4)), (0, va_rf ((some q))), (1, .int (x1)), (2, .int (x2)), (3, .int (x3)), (4, .int (x4)), (5, .int (x5)), (6, .int (x6))]) hx hb zd_X9_remark_8 hl (by decide) rfl (fun ls hl => ?_)
  refine lv_iload_n hx hb zd_X9_remark_10 rfl (lv_at hl 2 rfl) ?_
  replace hf := zo_b hf; obtain ⟨r5, er5, hf⟩ := hf
  refine zw_callS (n := 1) (As := [.int (x1)]) (rest := []) S hK hw (zt_X9_isKind l g h x1 _ er5) zm_455 zm_456 zq_X9_isKind zm_68 (by decide +kernel) ⟨Nat.le_of_ble_eq_true rfl, Nat.le_of_ble_eq_true rfl⟩ rfl hl.1 rfl (by simp [zv_cat, zv_ci, zv_cj]) zd_X9_remark_11 ⟨(by show (0 + 0) + (0 : Nat) ≤ (2 : Nat); omega), (by show (0 + 0) + (0 : Nat) ≤ (46 : Nat); omega)⟩ (fun H locs hw => ?_)
  replace hw : zc_W g h H locs := hw
  refine W.widen (k := ((0 + 0) + 0)) (n := ((0 + 0) + 0)) (Nat.le_refl _) (Nat.le_refl _) ?_
  have k40h : ∀ (_ : Unit) (H : Heap) (locs : List Loc) (ls : Array Slot), (
      (zf_X9_refuse h q (-1)).bind fun r7 =>
      some (r7.1, r7.2)
      ) = some res → zc_W g h H locs → lv_has ls 9 [(0, va_rf ((some q)))] → W p l e zr_X9_remark s m [va_rf ((some q)), .int (x1), .int (x2), .int (x3), .int (x4), .int (x5), .int (x6)].toArray below meth c H locs ((0 + 0) + 0) ((0 + 0) + 0) (zc_Q g below zr_X9_remark (some (.int (res.2))) res.1 [va_rf ((some q)), .int (x1), .int (x2), .int (x3), .int (x4), .int (x5), .int (x6)] s) (F0 m 40 ls []) := by
    intro _ H locs ls hf hw hl
    refine zl_aload_n hx hb zd_X9_remark_40 rfl (lv_at hl 0 rfl) ?_
    refine lv_iconst (v := (-1)) hx hb zd_X9_remark_41 (by decide) ?_
    replace hf := zo_b hf; obtain ⟨r7, er7, hf⟩ := hf
    refine zw_callV (n := 1) (ci := 9) (q := zc_cl[9]) (As := [.int ((-1))]) (rest := []) S hK hw (zt_X9_refuse l g h q (-1) _ er7) zm_349 zm_351 zm_1 zq_X9_refuse zm_68 (by decide +kernel) ⟨Nat.le_of_ble_eq_true rfl, Nat.le_of_ble_eq_true rfl⟩ rfl rfl rfl (zi_X9_refuse er7) hl.1 rfl (by simp [zv_cat, zv_ci, zv_cj]) zd_X9_remark_42 ⟨(by show ((0 + 0) + 0) + (0 : Nat) ≤ (2 : Nat); omega), (by show ((0 + 0) + 0) + (0 : Nat) ≤ (46 : Nat); omega)⟩ (fun H locs hw => ?_)
    replace hw : zc_W g r7.1 H locs := hw
    refine W.widen (k := (((0 + 0) + 0) + 0)) (n := (((0 + 0) + 0) + 0)) (Nat.le_refl _) (Nat.le_refl _) ?_
    have hres := Option.some.inj hf; subst hres
    exact zw_iret (v := r7.2) (ty := .int) hx hb hr hlk rfl hw zd_X9_remark_45 (by show _ ≤ (2 : Nat); omega) (by show _ ≤ (46 : Nat); omega)
  refine lv_if_eq (tgt := 40) hx hb zd_X9_remark_14 (by decide) (fun c6 => ?_) (fun c6 => ?_)
  · replace hf := zo_t c6 hf
    exact k40h () _ _ _ hf hw (lv_sub hl [1] rfl)
  · replace hf := zo_f c6 hf
    refine zl_aload hx hb zd_X9_remark_17 (lv_at hl 0 rfl) ?_
    refine zl_ifnull (tgt := 40) hx hb zd_X9_remark_19 (by decide) (fun c8 => ?_) (fun c8 => ?_)
    · replace hf := zo_t c8 hf
      exact k40h () _ _ _ hf hw (lv_sub hl [1] rfl)
    · replace hf := zo_f c8 hf
      refine lv_iload hx hb zd_X9_remark_22 (lv_at hl 7 rfl) ?_
      refine lv_iconst (v := (-1)) hx hb zd_X9_remark_24 (by decide) ?_
      have k46h : ∀ (_ : Unit) (H : Heap) (locs : List Loc) (ls : Array Slot), (
          r4.bind fun a10 =>
          (zf_X4_hasLine h a10 x4).bind fun r11 =>
          let k73 := fun (_ : Unit) =>
            (zf_X9_refuse h q (-5)).bind fun r13 =>
            some (r13.1, r13.2)
          if r11 = 0 then
            k73 ()
          else
          (zf_X4_hasLine h a10 x5).bind fun r14 =>
          if r14 = 0 then
            k73 ()
          else
          if x4 ≤ x5 then
            let k90 := fun (_ : Unit) =>
              (zf_X9_refuse h q (-6)).bind fun r18 =>
              some (r18.1, r18.2)
            if x2 < 0 then
              k90 ()
            else
            if x2 ≤ 9 then
              (zf_gr h q 9 1).bind fun v20 =>
              v20.bind fun a22 =>
              (zf_gr h a22 6 1).bind fun v23 =>
              v23.bind fun a25 =>
              (zf_Jx4a65c_size_8abf5 h a25).bind fun r26 =>
              if r26 < 16 then
                (zf_gr h q 9 1).bind fun v28 =>
                v28.bind fun a30 =>
                (zf_gr h a30 6 1).bind fun v31 =>
                (some (zf_new h (.inr (3, [.int 0, .int 0, .int 0, .null, .int 0, .int 0])))).bind fun h33 =>
                (zf_X9_spanOf h33 x4 x5).bind fun r34 =>
                (zf_X3_init h33 h.2.1 r26 x1 x2 r4 r34 x6).bind fun r35 =>
                v31.bind fun a36 =>
                (zf_Jx4a65c_add_9ea2d r35 a36 (some h.2.1)).bind fun r37 =>
                some (r37.1, r26)
              else
              (zf_X9_refuse h q (-7)).bind fun r38 =>
              some (r38.1, r38.2)
            else
            k90 ()
          else
          k73 ()
          ) = some res → zc_W g h H locs → lv_has ls 9 [(0, va_rf ((some q))), (1, .int (x1)), (2, .int (x2)), (4, .int (x4)), (5, .int (x5)), (6, .int (x6)), (7, va_rf (r4))] → W p l e zr_X9_remark s m [va_rf ((some q)), .int (x1), .int (x2), .int (x3), .int (x4), .int (x5), .int (x6)].toArray below meth c H locs ((0 + 0) + 0) ((0 + 0) + 0) (zc_Q g below zr_X9_remark (some (.int (res.2))) res.1 [va_rf ((some q)), .int (x1), .int (x2), .int (x3), .int (x4), .int (x5), .int (x6)] s) (F0 m 46 ls []) := by
        intro _ H locs ls hf hw hl
        refine zl_aload hx hb zd_X9_remark_46 (lv_at hl 6 rfl) ?_
        refine lv_iload hx hb zd_X9_remark_48 (lv_at hl 3 rfl) ?_
        replace hf := zo_b hf; obtain ⟨a10, na10, hf⟩ := hf
        refine W.eq (g2 := F0 m 50 ls [.int (x4), va_rf ((some a10))]) (by rw [na10] <;> rfl) ?_
        replace hf := zo_b hf; obtain ⟨r11, er11, hf⟩ := hf
        refine zw_callV (n := 1) (ci := 4) (q := zc_cl[4]) (As := [.int (x4)]) (rest := []) S hK hw (zt_X4_hasLine l g h a10 x4 _ er11) zm_667 zm_668 zm_669 zq_X4_hasLine zm_84 (by decide +kernel) ⟨Nat.le_of_ble_eq_true rfl, Nat.le_of_ble_eq_true rfl⟩ rfl rfl rfl (zi_X4_hasLine er11) hl.1 rfl (by simp [zv_cat, zv_ci, zv_cj]) zd_X9_remark_50 ⟨(by show ((0 + 0) + 0) + (0 : Nat) ≤ (2 : Nat); omega), (by show ((0 + 0) + 0) + (0 : Nat) ≤ (46 : Nat); omega)⟩ (fun H locs hw => ?_)
        replace hw : zc_W g h H locs := hw
        refine W.widen (k := (((0 + 0) + 0) + 0)) (n := (((0 + 0) + 0) + 0)) (Nat.le_refl _) (Nat.le_refl _) ?_
        have k73h : ∀ (_ : Unit) (H : Heap) (locs : List Loc) (ls : Array Slot), (
            (zf_X9_refuse h q (-5)).bind fun r13 =>
            some (r13.1, r13.2)
            ) = some res → zc_W g h H locs → lv_has ls 9 [(0, va_rf ((some q)))] → W p l e zr_X9_remark s m [va_rf ((some q)), .int (x1), .int (x2), .int (x3), .int (x4), .int (x5), .int (x6)].toArray below meth c H locs (((0 + 0) + 0) + 0) (((0 + 0) + 0) + 0) (zc_Q g below zr_X9_remark (some (.int (res.2))) res.1 [va_rf ((some q)), .int (x1), .int (x2), .int (x3), .int (x4), .int (x5), .int (x6)] s) (F0 m 73 ls []) := by
          intro _ H locs ls hf hw hl
          refine zl_aload_n hx hb zd_X9_remark_73 rfl (lv_at hl 0 rfl) ?_
          refine lv_bipush (v := (-5)) hx hb zd_X9_remark_74 (by decide) ?_
          replace hf := zo_b hf; obtain ⟨r13, er13, hf⟩ := hf
          refine zw_callV (n := 1) (ci := 9) (q := zc_cl[9]) (As := [.int ((-5))]) (rest := []) S hK hw (zt_X9_refuse l g h q (-5) _ er13) zm_349 zm_351 zm_1 zq_X9_refuse zm_68 (by decide +kernel) ⟨Nat.le_of_ble_eq_true rfl, Nat.le_of_ble_eq_true rfl⟩ rfl rfl rfl (zi_X9_refuse er13) hl.1 rfl (by simp [zv_cat, zv_ci, zv_cj]) zd_X9_remark_76 ⟨(by show (((0 + 0) + 0) + 0) + (0 : Nat) ≤ (2 : Nat); omega), (by show (((0 + 0) + 0) + 0) + (0 : Nat) ≤ (46 : Nat); omega)⟩ (fun H locs hw => ?_)
          replace hw : zc_W g r13.1 H locs := hw
          refine W.widen (k := ((((0 + 0) + 0) + 0) + 0)) (n := ((((0 + 0) + 0) + 0) + 0)) (Nat.le_refl _) (Nat.le_refl _) ?_
          have hres := Option.some.inj hf; subst hres
          exact zw_iret (v := r13.2) (ty := .int) hx hb hr hlk rfl hw zd_X9_remark_79 (by show _ ≤ (2 : Nat); omega) (by show _ ≤ (46 : Nat); omega)
        refine lv_if_eq (tgt := 73) hx hb zd_X9_remark_53 (by decide) (fun c12 => ?_) (fun c12 => ?_)
        · replace hf := zo_t c12 hf
          exact k73h () _ _ _ hf hw (lv_sub hl [0] rfl)
        · replace hf := zo_f c12 hf
          refine zl_aload hx hb zd_X9_remark_56 (lv_at hl 6 rfl) ?_
          refine lv_iload hx hb zd_X9_remark_58 (lv_at hl 4 rfl) ?_
          refine W.eq (g2 := F0 m 60 ls [.int (x5), va_rf ((some a10))]) (by rw [na10] <;> rfl) ?_
          replace hf := zo_b hf; obtain ⟨r14, er14, hf⟩ := hf
          refine zw_callV (n := 1) (ci := 4) (q := zc_cl[4]) (As := [.int (x5)]) (rest := []) S hK hw (zt_X4_hasLine l g h a10 x5 _ er14) zm_667 zm_668 zm_669 zq_X4_hasLine zm_84 (by decide +kernel) ⟨Nat.le_of_ble_eq_true rfl, Nat.le_of_ble_eq_true rfl⟩ rfl rfl rfl (zi_X4_hasLine er14) hl.1 rfl (by simp [zv_cat, zv_ci, zv_cj]) zd_X9_remark_60 ⟨(by show (((0 + 0) + 0) + 0) + (0 : Nat) ≤ (2 : Nat); omega), (by show (((0 + 0) + 0) + 0) + (0 : Nat) ≤ (46 : Nat); omega)⟩ (fun H locs hw => ?_)
          replace hw : zc_W g h H locs := hw
          refine W.widen (k := ((((0 + 0) + 0) + 0) + 0)) (n := ((((0 + 0) + 0) + 0) + 0)) (Nat.le_refl _) (Nat.le_refl _) ?_
          refine lv_if_eq (tgt := 73) hx hb zd_X9_remark_63 (by decide) (fun c15 => ?_) (fun c15 => ?_)
          · replace hf := zo_t c15 hf
            exact k73h () _ _ _ hf hw (lv_sub hl [0] rfl)
          · replace hf := zo_f c15 hf
            refine lv_iload hx hb zd_X9_remark_66 (lv_at hl 4 rfl) ?_
            refine lv_iload hx hb zd_X9_remark_68 (lv_at hl 3 rfl) ?_
            refine lv_icmp_ge (tgt := 80) hx hb zd_X9_remark_70 (by decide) (fun c16 => ?_) (fun c16 => ?_)
            · replace hf := zo_t c16 hf
              refine lv_iload_n hx hb zd_X9_remark_80 rfl (lv_at hl 2 rfl) ?_
              have k90h : ∀ (_ : Unit) (H : Heap) (locs : List Loc) (ls : Array Slot), (
                  (zf_X9_refuse h q (-6)).bind fun r18 =>
                  some (r18.1, r18.2)
                  ) = some res → zc_W g h H locs → lv_has ls 9 [(0, va_rf ((some q)))] → W p l e zr_X9_remark s m [va_rf ((some q)), .int (x1), .int (x2), .int (x3), .int (x4), .int (x5), .int (x6)].toArray below meth c H locs ((((0 + 0) + 0) + 0) + 0) ((((0 + 0) + 0) + 0) + 0) (zc_Q g below zr_X9_remark (some (.int (res.2))) res.1 [va_rf ((some q)), .int (x1), .int (x2), .int (x3), .int (x4), .int (x5), .int (x6)] s) (F0 m 90 ls []) := by
                intro _ H locs ls hf hw hl
                refine zl_aload_n hx hb zd_X9_remark_90 rfl (lv_at hl 0 rfl) ?_
                refine lv_bipush (v := (-6)) hx hb zd_X9_remark_91 (by decide) ?_
                replace hf := zo_b hf; obtain ⟨r18, er18, hf⟩ := hf
                refine zw_callV (n := 1) (ci := 9) (q := zc_cl[9]) (As := [.int ((-6))]) (rest := []) S hK hw (zt_X9_refuse l g h q (-6) _ er18) zm_349 zm_351 zm_1 zq_X9_refuse zm_68 (by decide +kernel) ⟨Nat.le_of_ble_eq_true rfl, Nat.le_of_ble_eq_true rfl⟩ rfl rfl rfl (zi_X9_refuse er18) hl.1 rfl (by simp [zv_cat, zv_ci, zv_cj]) zd_X9_remark_93 ⟨(by show ((((0 + 0) + 0) + 0) + 0) + (0 : Nat) ≤ (2 : Nat); omega), (by show ((((0 + 0) + 0) + 0) + 0) + (0 : Nat) ≤ (46 : Nat); omega)⟩ (fun H locs hw => ?_)
                replace hw : zc_W g r18.1 H locs := hw
                refine W.widen (k := (((((0 + 0) + 0) + 0) + 0) + 0)) (n := (((((0 + 0) + 0) + 0) + 0) + 0)) (Nat.le_refl _) (Nat.le_refl _) ?_
                have hres := Option.some.inj hf; subst hres
                exact zw_iret (v := r18.2) (ty := .int) hx hb hr hlk rfl hw zd_X9_remark_96 (by show _ ≤ (2 : Nat); omega) (by show _ ≤ (46 : Nat); omega)
              refine lv_if_lt (tgt := 90) hx hb zd_X9_remark_81 (by decide) (fun c17 => ?_) (fun c17 => ?_)
              · replace hf := zo_t c17 hf
                exact k90h () _ _ _ hf hw (lv_sub hl [0] rfl)
              · replace hf := zo_f c17 hf
                refine lv_iload_n hx hb zd_X9_remark_84 rfl (lv_at hl 2 rfl) ?_
                refine lv_bipush (v := 9) hx hb zd_X9_remark_85 (by decide) ?_
                refine lv_icmp_le (tgt := 97) hx hb zd_X9_remark_87 (by decide) (fun c19 => ?_) (fun c19 => ?_)
                · replace hf := zo_t c19 hf
                  refine zl_aload_n hx hb zd_X9_remark_97 rfl (lv_at hl 0 rfl) ?_
                  replace hf := zo_b hf; obtain ⟨v20, ev20, hf⟩ := hf
                  obtain ⟨u21, u21e, u21v⟩ := zo_b ev20
                  obtain rfl := zv_r_e u21v
                  refine zw_get S hK hw zk_9 (k := 1) (by decide) rfl zm_308 (Or.inl rfl) u21e zd_X9_remark_98 ?_
                  replace hf := zo_b hf; obtain ⟨a22, na22, hf⟩ := hf
                  refine W.eq (g2 := F0 m 101 ls [va_rf ((some a22))]) (by rw [na22] <;> rfl) ?_
                  replace hf := zo_b hf; obtain ⟨v23, ev23, hf⟩ := hf
                  obtain ⟨u24, u24e, u24v⟩ := zo_b ev23
                  obtain rfl := zv_r_e u24v
                  refine zw_get S hK hw zk_6 (k := 1) (by decide) rfl zm_135 (Or.inl rfl) u24e zd_X9_remark_101 ?_
                  replace hf := zo_b hf; obtain ⟨a25, na25, hf⟩ := hf
                  refine W.eq (g2 := F0 m 104 ls [va_rf ((some a25))]) (by rw [na25] <;> rfl) ?_
                  replace hf := zo_b hf; obtain ⟨r26, er26, hf⟩ := hf
                  refine zw_callV (n := 0) (ci := 11) (q := zc_cl[11]) (As := []) (rest := []) S hK hw (zt_Jx4a65c_size_8abf5 l g h a25 _ er26) zm_500 zm_425 zm_426 zq_Jx4a65c_size_8abf5 zm_72 (by decide +kernel) ⟨Nat.le_of_ble_eq_true rfl, Nat.le_of_ble_eq_true rfl⟩ rfl rfl rfl (zi_Jx4a65c_size_8abf5 er26) hl.1 rfl (by simp [zv_cat, zv_ci, zv_cj]) zd_X9_remark_104 ⟨(by show ((((0 + 0) + 0) + 0) + 0) + (0 : Nat) ≤ (2 : Nat); omega), (by show ((((0 + 0) + 0) + 0) + 0) + (0 : Nat) ≤ (46 : Nat); omega)⟩ (fun H locs hw => ?_)
                  replace hw : zc_W g h H locs := hw
                  refine W.widen (k := (((((0 + 0) + 0) + 0) + 0) + 0)) (n := (((((0 + 0) + 0) + 0) + 0) + 0)) (Nat.le_refl _) (Nat.le_refl _) ?_
                  refine lv_istore (i := 8) (lv' := [(8, .int (r26)), (0, va_rf ((some q))), (1, .int (x1)), (2, .int (x2)), (4, .int (x4)), (5, .int (x5)), (6, .int (x6)), (7, va_rf (r4))]) hx hb zd_X9_remark_107 hl (by decide) (by simp [List.filter, zv_cat, zv_ci, zv_cj]) (fun ls hl => ?_)
                  refine lv_iload hx hb zd_X9_remark_109 (lv_at hl 0 rfl) ?_
                  refine lv_bipush (v := 16) hx hb zd_X9_remark_111 (by decide) ?_
                  refine lv_icmp_lt (tgt := 123) hx hb zd_X9_remark_113 (by decide) (fun c27 => ?_) (fun c27 => ?_)
                  · replace hf := zo_t c27 hf
                    refine zl_aload_n hx hb zd_X9_remark_123 rfl (lv_at hl 1 rfl) ?_
                    replace hf := zo_b hf; obtain ⟨v28, ev28, hf⟩ := hf
                    obtain ⟨u29, u29e, u29v⟩ := zo_b ev28
                    obtain rfl := zv_r_e u29v
                    refine zw_get S hK hw zk_9 (k := 1) (by decide) rfl zm_308 (Or.inl rfl) u29e zd_X9_remark_124 ?_
                    replace hf := zo_b hf; obtain ⟨a30, na30, hf⟩ := hf
                    refine W.eq (g2 := F0 m 127 ls [va_rf ((some a30))]) (by rw [na30] <;> rfl) ?_
                    replace hf := zo_b hf; obtain ⟨v31, ev31, hf⟩ := hf
                    obtain ⟨u32, u32e, u32v⟩ := zo_b ev31
                    obtain rfl := zv_r_e u32v
                    refine zw_get S hK hw zk_6 (k := 1) (by decide) rfl zm_135 (Or.inl rfl) u32e zd_X9_remark_127 ?_
                    replace hf := zo_b hf; obtain ⟨h33, eh33, hf⟩ := hf
                    refine zw_new (ci := 3) (ty := tyX3) (fs := [.int 0, .int 0, .int 0, .null, .int 0, .int 0]) S hK hw zk_3 (fun k hk => tyX3_ok k hk) (by decide) zm_746 zm_747 zm_87 (by show _ ≤ (2 : Nat); omega) (by show _ ≤ (46 : Nat); omega) zd_X9_remark_130 (fun H hw => ?_)
                    replace hw : zc_W g h33 H locs := (Option.some.inj eh33) ▸ hw
                    refine lv_dup hx hb zd_X9_remark_133 rfl ?_
                    refine lv_iload hx hb zd_X9_remark_134 (lv_at hl 0 rfl) ?_
                    refine lv_iload_n hx hb zd_X9_remark_136 rfl (lv_at hl 2 rfl) ?_
                    refine lv_iload_n hx hb zd_X9_remark_137 rfl (lv_at hl 3 rfl) ?_
                    refine zl_aload hx hb zd_X9_remark_138 (lv_at hl 7 rfl) ?_
                    refine lv_iload hx hb zd_X9_remark_140 (lv_at hl 4 rfl) ?_
                    refine lv_iload hx hb zd_X9_remark_142 (lv_at hl 5 rfl) ?_
                    replace hf := zo_b hf; obtain ⟨r34, er34, hf⟩ := hf
                    refine zw_callS (n := 2) (As := [.int (x4), .int (x5)]) (rest := [va_rf (r4), .int (x2), .int (x1), .int (r26), va_rf ((some h.2.1)), va_rf ((some h.2.1)), va_rf (v31)]) S hK hw (zt_X9_spanOf l g h33 x4 x5 _ er34) zm_748 zm_749 zq_X9_spanOf zm_68 (by decide +kernel) ⟨Nat.le_of_ble_eq_true rfl, Nat.le_of_ble_eq_true rfl⟩ rfl hl.1 rfl (by simp [zv_cat, zv_ci, zv_cj]) zd_X9_remark_144 ⟨(by show ((((((0 + 0) + 0) + 0) + 0) + 0) + 1) + (0 : Nat) ≤ (2 : Nat); omega), (by show ((((((0 + 0) + 0) + 0) + 0) + 0) + 6) + (0 : Nat) ≤ (46 : Nat); omega)⟩ (fun H locs hw => ?_)
                    replace hw : zc_W g h33 H locs := hw
                    refine W.widen (k := (((((((0 + 0) + 0) + 0) + 0) + 0) + 1) + 0)) (n := (((((((0 + 0) + 0) + 0) + 0) + 0) + 6) + 0)) (Nat.le_refl _) (Nat.le_refl _) ?_
                    refine lv_iload hx hb zd_X9_remark_147 (lv_at hl 6 rfl) ?_
                    replace hf := zo_b hf; obtain ⟨r35, er35, hf⟩ := hf
                    refine zw_callI (n := 6) (As := [.int (r26), .int (x1), .int (x2), va_rf (r4), .int (r34), .int (x6)]) (rest := [va_rf ((some h.2.1)), va_rf (v31)]) S hK hw (zt_X3_init l g h33 h.2.1 r26 x1 x2 r4 r34 x6 _ er35) rfl zm_751 zm_752 zq_X3_init zm_87 (by decide +kernel) ⟨Nat.le_of_ble_eq_true rfl, Nat.le_of_ble_eq_true rfl⟩ rfl hl.1 rfl (by simp [zv_cat, zv_ci, zv_cj]) zd_X9_remark_149 ⟨(by show (((((((0 + 0) + 0) + 0) + 0) + 0) + 1) + 0) + (0 : Nat) ≤ (2 : Nat); omega), (by show (((((((0 + 0) + 0) + 0) + 0) + 0) + 6) + 0) + (0 : Nat) ≤ (46 : Nat); omega)⟩ (fun H locs hw => ?_)
                    replace hw : zc_W g r35 H locs := hw
                    refine W.widen (k := ((((((((0 + 0) + 0) + 0) + 0) + 0) + 1) + 0) + 0)) (n := ((((((((0 + 0) + 0) + 0) + 0) + 0) + 6) + 0) + 0)) (Nat.le_refl _) (Nat.le_refl _) ?_
                    replace hf := zo_b hf; obtain ⟨a36, na36, hf⟩ := hf
                    refine W.eq (g2 := F0 m 152 ls [va_rf ((some h.2.1)), va_rf ((some a36))]) (by rw [na36] <;> rfl) ?_
                    replace hf := zo_b hf; obtain ⟨r37, er37, hf⟩ := hf
                    refine zw_callV (n := 1) (ci := 11) (q := zc_cl[11]) (As := [va_rf ((some h.2.1))]) (rest := []) S hK hw (zt_Jx4a65c_add_9ea2d l g r35 a36 (some h.2.1) _ er37) zm_549 zm_550 zm_551 zq_Jx4a65c_add_9ea2d zm_72 (by decide +kernel) ⟨Nat.le_of_ble_eq_true rfl, Nat.le_of_ble_eq_true rfl⟩ rfl rfl rfl (zi_Jx4a65c_add_9ea2d er37) hl.1 rfl (by simp [zv_cat, zv_ci, zv_cj]) zd_X9_remark_152 ⟨(by show ((((((((0 + 0) + 0) + 0) + 0) + 0) + 1) + 0) + 0) + (1 : Nat) ≤ (2 : Nat); omega), (by show ((((((((0 + 0) + 0) + 0) + 0) + 0) + 6) + 0) + 0) + (40 : Nat) ≤ (46 : Nat); omega)⟩ (fun H locs hw => ?_)
                    replace hw : zc_W g r37.1 H locs := hw
                    refine W.widen (k := (((((((((0 + 0) + 0) + 0) + 0) + 0) + 1) + 0) + 0) + 1)) (n := (((((((((0 + 0) + 0) + 0) + 0) + 0) + 6) + 0) + 0) + 40)) (Nat.le_refl _) (Nat.le_refl _) ?_
                    refine lv_pop hx hb zd_X9_remark_155 rfl ?_
                    refine lv_iload hx hb zd_X9_remark_156 (lv_at hl 0 rfl) ?_
                    have hres := Option.some.inj hf; subst hres
                    exact zw_iret (v := r26) (ty := .int) hx hb hr hlk rfl hw zd_X9_remark_158 (by show _ ≤ (2 : Nat); omega) (by show _ ≤ (46 : Nat); omega)
                  · replace hf := zo_f c27 hf
                    refine zl_aload_n hx hb zd_X9_remark_116 rfl (lv_at hl 1 rfl) ?_
                    refine lv_bipush (v := (-7)) hx hb zd_X9_remark_117 (by decide) ?_
                    replace hf := zo_b hf; obtain ⟨r38, er38, hf⟩ := hf
                    refine zw_callV (n := 1) (ci := 9) (q := zc_cl[9]) (As := [.int ((-7))]) (rest := []) S hK hw (zt_X9_refuse l g h q (-7) _ er38) zm_349 zm_351 zm_1 zq_X9_refuse zm_68 (by decide +kernel) ⟨Nat.le_of_ble_eq_true rfl, Nat.le_of_ble_eq_true rfl⟩ rfl rfl rfl (zi_X9_refuse er38) hl.1 rfl (by simp [zv_cat, zv_ci, zv_cj]) zd_X9_remark_119 ⟨(by show (((((0 + 0) + 0) + 0) + 0) + 0) + (0 : Nat) ≤ (2 : Nat); omega), (by show (((((0 + 0) + 0) + 0) + 0) + 0) + (0 : Nat) ≤ (46 : Nat); omega)⟩ (fun H locs hw => ?_)
                    replace hw : zc_W g r38.1 H locs := hw
                    refine W.widen (k := ((((((0 + 0) + 0) + 0) + 0) + 0) + 0)) (n := ((((((0 + 0) + 0) + 0) + 0) + 0) + 0)) (Nat.le_refl _) (Nat.le_refl _) ?_
                    have hres := Option.some.inj hf; subst hres
                    exact zw_iret (v := r38.2) (ty := .int) hx hb hr hlk rfl hw zd_X9_remark_122 (by show _ ≤ (2 : Nat); omega) (by show _ ≤ (46 : Nat); omega)
                · replace hf := zo_f c19 hf
                  exact k90h () _ _ _ hf hw (lv_sub hl [0] rfl)
            · replace hf := zo_f c16 hf
              exact k73h () _ _ _ hf hw (lv_sub hl [0] rfl)
      refine lv_icmp_eq (tgt := 46) hx hb zd_X9_remark_25 (by decide) (fun c9 => ?_) (fun c9 => ?_)
      · replace hf := zo_t c9 hf
        exact k46h () _ _ _ hf hw (lv_sub hl [1, 2, 3, 5, 6, 7, 0] rfl)
      · replace hf := zo_f c9 hf
        refine zl_aload_n hx hb zd_X9_remark_28 rfl (lv_at hl 1 rfl) ?_
        replace hf := zo_b hf; obtain ⟨v39, ev39, hf⟩ := hf
        obtain ⟨u40, u40e, u40v⟩ := zo_b ev39
        obtain rfl := zv_r_e u40v
        refine zw_get S hK hw zk_9 (k := 1) (by decide) rfl zm_308 (Or.inl rfl) u40e zd_X9_remark_29 ?_
        refine lv_iload hx hb zd_X9_remark_32 (lv_at hl 7 rfl) ?_
        replace hf := zo_b hf; obtain ⟨a41, na41, hf⟩ := hf
        refine W.eq (g2 := F0 m 34 ls [.int (x6), va_rf ((some a41))]) (by rw [na41] <;> rfl) ?_
        replace hf := zo_b hf; obtain ⟨r42, er42, hf⟩ := hf
        refine zw_callV (n := 1) (ci := 6) (q := zc_cl[6]) (As := [.int (x6)]) (rest := []) S hK hw (zt_X6_remarkAt l g h a41 x6 _ er42) zm_420 zm_421 zm_422 zq_X6_remarkAt zm_69 (by decide +kernel) ⟨Nat.le_of_ble_eq_true rfl, Nat.le_of_ble_eq_true rfl⟩ rfl rfl rfl (zi_X6_remarkAt er42) hl.1 rfl (by simp [zv_cat, zv_ci, zv_cj]) zd_X9_remark_34 ⟨(by show ((0 + 0) + 0) + (0 : Nat) ≤ (2 : Nat); omega), (by show ((0 + 0) + 0) + (0 : Nat) ≤ (46 : Nat); omega)⟩ (fun H locs hw => ?_)
        replace hw : zc_W g h H locs := hw
        refine W.widen (k := (((0 + 0) + 0) + 0)) (n := (((0 + 0) + 0) + 0)) (Nat.le_refl _) (Nat.le_refl _) ?_
        refine zl_ifnonnull (tgt := 46) hx hb zd_X9_remark_37 (by decide) (fun c43 => ?_) (fun c43 => ?_)
        · replace hf := zo_f c43 hf
          exact k46h () _ _ _ hf hw (lv_sub hl [1, 2, 3, 5, 6, 7, 0] rfl)
        · replace hf := zo_t c43 hf
          exact k40h () _ _ _ hf hw (lv_sub hl [1] rfl)
def zf_J6_bitCount_0f7a4 (h : zc_H) (x0 : Int32) : Option (Int32) :=
  some ((((((((x0 - ((((x0).toUInt32 >>> ((1 : Int32).toUInt32 &&& Int32.toUInt32 31)).toInt32) &&& 1431655765)) &&& 858993459) + (((((x0 - ((((x0).toUInt32 >>> ((1 : Int32).toUInt32 &&& Int32.toUInt32 31)).toInt32) &&& 1431655765))).toUInt32 >>> ((2 : Int32).toUInt32 &&& Int32.toUInt32 31)).toInt32) &&& 858993459)) + ((((((x0 - ((((x0).toUInt32 >>> ((1 : Int32).toUInt32 &&& Int32.toUInt32 31)).toInt32) &&& 1431655765)) &&& 858993459) + (((((x0 - ((((x0).toUInt32 >>> ((1 : Int32).toUInt32 &&& Int32.toUInt32 31)).toInt32) &&& 1431655765))).toUInt32 >>> ((2 : Int32).toUInt32 &&& Int32.toUInt32 31)).toInt32) &&& 858993459))).toUInt32 >>> ((4 : Int32).toUInt32 &&& Int32.toUInt32 31)).toInt32)) &&& 252645135) + ((((((((x0 - ((((x0).toUInt32 >>> ((1 : Int32).toUInt32 &&& Int32.toUInt32 31)).toInt32) &&& 1431655765)) &&& 858993459) + (((((x0 - ((((x0).toUInt32 >>> ((1 : Int32).toUInt32 &&& Int32.toUInt32 31)).toInt32) &&& 1431655765))).toUInt32 >>> ((2 : Int32).toUInt32 &&& Int32.toUInt32 31)).toInt32) &&& 858993459)) + ((((((x0 - ((((x0).toUInt32 >>> ((1 : Int32).toUInt32 &&& Int32.toUInt32 31)).toInt32) &&& 1431655765)) &&& 858993459) + (((((x0 - ((((x0).toUInt32 >>> ((1 : Int32).toUInt32 &&& Int32.toUInt32 31)).toInt32) &&& 1431655765))).toUInt32 >>> ((2 : Int32).toUInt32 &&& Int32.toUInt32 31)).toInt32) &&& 858993459))).toUInt32 >>> ((4 : Int32).toUInt32 &&& Int32.toUInt32 31)).toInt32)) &&& 252645135)).toUInt32 >>> ((8 : Int32).toUInt32 &&& Int32.toUInt32 31)).toInt32)) + (((((((((x0 - ((((x0).toUInt32 >>> ((1 : Int32).toUInt32 &&& Int32.toUInt32 31)).toInt32) &&& 1431655765)) &&& 858993459) + (((((x0 - ((((x0).toUInt32 >>> ((1 : Int32).toUInt32 &&& Int32.toUInt32 31)).toInt32) &&& 1431655765))).toUInt32 >>> ((2 : Int32).toUInt32 &&& Int32.toUInt32 31)).toInt32) &&& 858993459)) + ((((((x0 - ((((x0).toUInt32 >>> ((1 : Int32).toUInt32 &&& Int32.toUInt32 31)).toInt32) &&& 1431655765)) &&& 858993459) + (((((x0 - ((((x0).toUInt32 >>> ((1 : Int32).toUInt32 &&& Int32.toUInt32 31)).toInt32) &&& 1431655765))).toUInt32 >>> ((2 : Int32).toUInt32 &&& Int32.toUInt32 31)).toInt32) &&& 858993459))).toUInt32 >>> ((4 : Int32).toUInt32 &&& Int32.toUInt32 31)).toInt32)) &&& 252645135) + ((((((((x0 - ((((x0).toUInt32 >>> ((1 : Int32).toUInt32 &&& Int32.toUInt32 31)).toInt32) &&& 1431655765)) &&& 858993459) + (((((x0 - ((((x0).toUInt32 >>> ((1 : Int32).toUInt32 &&& Int32.toUInt32 31)).toInt32) &&& 1431655765))).toUInt32 >>> ((2 : Int32).toUInt32 &&& Int32.toUInt32 31)).toInt32) &&& 858993459)) + ((((((x0 - ((((x0).toUInt32 >>> ((1 : Int32).toUInt32 &&& Int32.toUInt32 31)).toInt32) &&& 1431655765)) &&& 858993459) + (((((x0 - ((((x0).toUInt32 >>> ((1 : Int32).toUInt32 &&& Int32.toUInt32 31)).toInt32) &&& 1431655765))).toUInt32 >>> ((2 : Int32).toUInt32 &&& Int32.toUInt32 31)).toInt32) &&& 858993459))).toUInt32 >>> ((4 : Int32).toUInt32 &&& Int32.toUInt32 31)).toInt32)) &&& 252645135)).toUInt32 >>> ((8 : Int32).toUInt32 &&& Int32.toUInt32 31)).toInt32))).toUInt32 >>> ((16 : Int32).toUInt32 &&& Int32.toUInt32 31)).toInt32)) &&& 63)
abbrev zr_J6_bitCount_0f7a4 : Room := { frames := 0, cells := 0, slots := 0, locals := 0 }
set_option maxHeartbeats 4000000 in
set_option maxRecDepth 20000 in
theorem zt_J6_bitCount_0f7a4 (l : Launch) (g : zc_G) (h : zc_H) (x0 : Int32) (res : Int32) (hf : zf_J6_bitCount_0f7a4 h x0 = some res) : zc_M l g yJ6_bitCount_0f7a4 cJ6_bitCount_0f7a4 1 (some .int) zr_J6_bitCount_0f7a4 h [.int (x0)] h (some (.int (res))) := by
  refine zc_M.of (by decide) (by simp [lg_sl, zv_cat, zv_ci, zv_cj]) ?_
  intro p e s m below meth c ls S hK hw hr hlk hnm hl
  replace S : CallFix p m c cJ6_bitCount_0f7a4 1 s [.int (x0)].toArray (zc_ws yJ6_bitCount_0f7a4 cJ6_bitCount_0f7a4 1 (some .int)) RJ6 := S
  have hx := S.1
  have hb := S.2.1
  replace hl : lv_has ls 1 [(0, .int (x0))] := by simpa [lv_args, zv_cat, zv_ci, zv_cj] using hl
  generalize s.heap = H at hw ⊢
  obtain ⟨locs, hlocs⟩ : ∃ L : List Loc, L = [] := ⟨_, rfl⟩
  rw [← hlocs] at hw ⊢
  unfold zf_J6_bitCount_0f7a4 at hf
  refine lv_iload_n hx hb zd_J6_bitCount_0f7a4_0 rfl (lv_at hl 0 rfl) ?_
  refine lv_iload_n hx hb zd_J6_bitCount_0f7a4_1 rfl (lv_at hl 0 rfl) ?_
  refine lv_iconst (v := 1) hx hb zd_J6_bitCount_0f7a4_2 (by decide) ?_
  refine lv_iushr (v := (((x0).toUInt32 >>> ((1 : Int32).toUInt32 &&& Int32.toUInt32 31)).toInt32)) hx hb zd_J6_bitCount_0f7a4_3 rfl ?_
  refine lv_ldcw (v := 1431655765) hx hb S.2.2.2.1 (S.2.2.2.2 _ (List.mem_cons_of_mem _ zm_808)) zd_J6_bitCount_0f7a4_4 ?_
  refine lv_iand hx hb zd_J6_bitCount_0f7a4_7 ?_
  refine lv_isub hx hb zd_J6_bitCount_0f7a4_8 ?_
  refine lv_istore_n (i := 0) (lv' := [(0, .int ((x0 - ((((x0).toUInt32 >>> ((1 : Int32).toUInt32 &&& Int32.toUInt32 31)).toInt32) &&& 1431655765))))]) hx hb zd_J6_bitCount_0f7a4_9 rfl hl (by decide) rfl (fun ls hl => ?_)
  refine lv_iload_n hx hb zd_J6_bitCount_0f7a4_10 rfl (lv_at hl 0 rfl) ?_
  refine lv_ldcw (v := 858993459) hx hb S.2.2.2.1 (S.2.2.2.2 _ (List.mem_cons_of_mem _ zm_809)) zd_J6_bitCount_0f7a4_11 ?_
  refine lv_iand hx hb zd_J6_bitCount_0f7a4_14 ?_
  refine lv_iload_n hx hb zd_J6_bitCount_0f7a4_15 rfl (lv_at hl 0 rfl) ?_
  refine lv_iconst (v := 2) hx hb zd_J6_bitCount_0f7a4_16 (by decide) ?_
  refine lv_iushr (v := ((((x0 - ((((x0).toUInt32 >>> ((1 : Int32).toUInt32 &&& Int32.toUInt32 31)).toInt32) &&& 1431655765))).toUInt32 >>> ((2 : Int32).toUInt32 &&& Int32.toUInt32 31)).toInt32)) hx hb zd_J6_bitCount_0f7a4_17 rfl ?_
  refine lv_ldcw (v := 858993459) hx hb S.2.2.2.1 (S.2.2.2.2 _ (List.mem_cons_of_mem _ zm_809)) zd_J6_bitCount_0f7a4_18 ?_
  refine lv_iand hx hb zd_J6_bitCount_0f7a4_21 ?_
  refine lv_iadd hx hb zd_J6_bitCount_0f7a4_22 ?_
  refine lv_istore_n (i := 0) (lv' := [(0, .int ((((x0 - ((((x0).toUInt32 >>> ((1 : Int32).toUInt32 &&& Int32.toUInt32 31)).toInt32) &&& 1431655765)) &&& 858993459) + (((((x0 - ((((x0).toUInt32 >>> ((1 : Int32).toUInt32 &&& Int32.toUInt32 31)).toInt32) &&& 1431655765))).toUInt32 >>> ((2 : Int32).toUInt32 &&& Int32.toUInt32 31)).toInt32) &&& 858993459))))]) hx hb zd_J6_bitCount_0f7a4_23 rfl hl (by decide) rfl (fun ls hl => ?_)
  refine lv_iload_n hx hb zd_J6_bitCount_0f7a4_24 rfl (lv_at hl 0 rfl) ?_
  refine lv_iload_n hx hb zd_J6_bitCount_0f7a4_25 rfl (lv_at hl 0 rfl) ?_
  refine lv_iconst (v := 4) hx hb zd_J6_bitCount_0f7a4_26 (by decide) ?_
  refine lv_iushr (v := ((((((x0 - ((((x0).toUInt32 >>> ((1 : Int32).toUInt32 &&& Int32.toUInt32 31)).toInt32) &&& 1431655765)) &&& 858993459) + (((((x0 - ((((x0).toUInt32 >>> ((1 : Int32).toUInt32 &&& Int32.toUInt32 31)).toInt32) &&& 1431655765))).toUInt32 >>> ((2 : Int32).toUInt32 &&& Int32.toUInt32 31)).toInt32) &&& 858993459))).toUInt32 >>> ((4 : Int32).toUInt32 &&& Int32.toUInt32 31)).toInt32)) hx hb zd_J6_bitCount_0f7a4_27 rfl ?_
  refine lv_iadd hx hb zd_J6_bitCount_0f7a4_28 ?_
  refine lv_ldcw (v := 252645135) hx hb S.2.2.2.1 (S.2.2.2.2 _ (List.mem_cons_of_mem _ zm_810)) zd_J6_bitCount_0f7a4_29 ?_
  refine lv_iand hx hb zd_J6_bitCount_0f7a4_32 ?_
  refine lv_istore_n (i := 0) (lv' := [(0, .int ((((((x0 - ((((x0).toUInt32 >>> ((1 : Int32).toUInt32 &&& Int32.toUInt32 31)).toInt32) &&& 1431655765)) &&& 858993459) + (((((x0 - ((((x0).toUInt32 >>> ((1 : Int32).toUInt32 &&& Int32.toUInt32 31)).toInt32) &&& 1431655765))).toUInt32 >>> ((2 : Int32).toUInt32 &&& Int32.toUInt32 31)).toInt32) &&& 858993459)) + ((((((x0 - ((((x0).toUInt32 >>> ((1 : Int32).toUInt32 &&& Int32.toUInt32 31)).toInt32) &&& 1431655765)) &&& 858993459) + (((((x0 - ((((x0).toUInt32 >>> ((1 : Int32).toUInt32 &&& Int32.toUInt32 31)).toInt32) &&& 1431655765))).toUInt32 >>> ((2 : Int32).toUInt32 &&& Int32.toUInt32 31)).toInt32) &&& 858993459))).toUInt32 >>> ((4 : Int32).toUInt32 &&& Int32.toUInt32 31)).toInt32)) &&& 252645135)))]) hx hb zd_J6_bitCount_0f7a4_33 rfl hl (by decide) rfl (fun ls hl => ?_)
  refine lv_iload_n hx hb zd_J6_bitCount_0f7a4_34 rfl (lv_at hl 0 rfl) ?_
  refine lv_iload_n hx hb zd_J6_bitCount_0f7a4_35 rfl (lv_at hl 0 rfl) ?_
  refine lv_bipush (v := 8) hx hb zd_J6_bitCount_0f7a4_36 (by decide) ?_
  refine lv_iushr (v := ((((((((x0 - ((((x0).toUInt32 >>> ((1 : Int32).toUInt32 &&& Int32.toUInt32 31)).toInt32) &&& 1431655765)) &&& 858993459) + (((((x0 - ((((x0).toUInt32 >>> ((1 : Int32).toUInt32 &&& Int32.toUInt32 31)).toInt32) &&& 1431655765))).toUInt32 >>> ((2 : Int32).toUInt32 &&& Int32.toUInt32 31)).toInt32) &&& 858993459)) + ((((((x0 - ((((x0).toUInt32 >>> ((1 : Int32).toUInt32 &&& Int32.toUInt32 31)).toInt32) &&& 1431655765)) &&& 858993459) + (((((x0 - ((((x0).toUInt32 >>> ((1 : Int32).toUInt32 &&& Int32.toUInt32 31)).toInt32) &&& 1431655765))).toUInt32 >>> ((2 : Int32).toUInt32 &&& Int32.toUInt32 31)).toInt32) &&& 858993459))).toUInt32 >>> ((4 : Int32).toUInt32 &&& Int32.toUInt32 31)).toInt32)) &&& 252645135)).toUInt32 >>> ((8 : Int32).toUInt32 &&& Int32.toUInt32 31)).toInt32)) hx hb zd_J6_bitCount_0f7a4_38 rfl ?_
  refine lv_iadd hx hb zd_J6_bitCount_0f7a4_39 ?_
  refine lv_istore_n (i := 0) (lv' := [(0, .int (((((((x0 - ((((x0).toUInt32 >>> ((1 : Int32).toUInt32 &&& Int32.toUInt32 31)).toInt32) &&& 1431655765)) &&& 858993459) + (((((x0 - ((((x0).toUInt32 >>> ((1 : Int32).toUInt32 &&& Int32.toUInt32 31)).toInt32) &&& 1431655765))).toUInt32 >>> ((2 : Int32).toUInt32 &&& Int32.toUInt32 31)).toInt32) &&& 858993459)) + ((((((x0 - ((((x0).toUInt32 >>> ((1 : Int32).toUInt32 &&& Int32.toUInt32 31)).toInt32) &&& 1431655765)) &&& 858993459) + (((((x0 - ((((x0).toUInt32 >>> ((1 : Int32).toUInt32 &&& Int32.toUInt32 31)).toInt32) &&& 1431655765))).toUInt32 >>> ((2 : Int32).toUInt32 &&& Int32.toUInt32 31)).toInt32) &&& 858993459))).toUInt32 >>> ((4 : Int32).toUInt32 &&& Int32.toUInt32 31)).toInt32)) &&& 252645135) + ((((((((x0 - ((((x0).toUInt32 >>> ((1 : Int32).toUInt32 &&& Int32.toUInt32 31)).toInt32) &&& 1431655765)) &&& 858993459) + (((((x0 - ((((x0).toUInt32 >>> ((1 : Int32).toUInt32 &&& Int32.toUInt32 31)).toInt32) &&& 1431655765))).toUInt32 >>> ((2 : Int32).toUInt32 &&& Int32.toUInt32 31)).toInt32) &&& 858993459)) + ((((((x0 - ((((x0).toUInt32 >>> ((1 : Int32).toUInt32 &&& Int32.toUInt32 31)).toInt32) &&& 1431655765)) &&& 858993459) + (((((x0 - ((((x0).toUInt32 >>> ((1 : Int32).toUInt32 &&& Int32.toUInt32 31)).toInt32) &&& 1431655765))).toUInt32 >>> ((2 : Int32).toUInt32 &&& Int32.toUInt32 31)).toInt32) &&& 858993459))).toUInt32 >>> ((4 : Int32).toUInt32 &&& Int32.toUInt32 31)).toInt32)) &&& 252645135)).toUInt32 >>> ((8 : Int32).toUInt32 &&& Int32.toUInt32 31)).toInt32))))]) hx hb zd_J6_bitCount_0f7a4_40 rfl hl (by decide) rfl (fun ls hl => ?_)
  refine lv_iload_n hx hb zd_J6_bitCount_0f7a4_41 rfl (lv_at hl 0 rfl) ?_
  refine lv_iload_n hx hb zd_J6_bitCount_0f7a4_42 rfl (lv_at hl 0 rfl) ?_
  refine lv_bipush (v := 16) hx hb zd_J6_bitCount_0f7a4_43 (by decide) ?_
  refine lv_iushr (v := (((((((((x0 - ((((x0).toUInt32 >>> ((1 : Int32).toUInt32 &&& Int32.toUInt32 31)).toInt32) &&& 1431655765)) &&& 858993459) + (((((x0 - ((((x0).toUInt32 >>> ((1 : Int32).toUInt32 &&& Int32.toUInt32 31)).toInt32) &&& 1431655765))).toUInt32 >>> ((2 : Int32).toUInt32 &&& Int32.toUInt32 31)).toInt32) &&& 858993459)) + ((((((x0 - ((((x0).toUInt32 >>> ((1 : Int32).toUInt32 &&& Int32.toUInt32 31)).toInt32) &&& 1431655765)) &&& 858993459) + (((((x0 - ((((x0).toUInt32 >>> ((1 : Int32).toUInt32 &&& Int32.toUInt32 31)).toInt32) &&& 1431655765))).toUInt32 >>> ((2 : Int32).toUInt32 &&& Int32.toUInt32 31)).toInt32) &&& 858993459))).toUInt32 >>> ((4 : Int32).toUInt32 &&& Int32.toUInt32 31)).toInt32)) &&& 252645135) + ((((((((x0 - ((((x0).toUInt32 >>> ((1 : Int32).toUInt32 &&& Int32.toUInt32 31)).toInt32) &&& 1431655765)) &&& 858993459) + (((((x0 - ((((x0).toUInt32 >>> ((1 : Int32).toUInt32 &&& Int32.toUInt32 31)).toInt32) &&& 1431655765))).toUInt32 >>> ((2 : Int32).toUInt32 &&& Int32.toUInt32 31)).toInt32) &&& 858993459)) + ((((((x0 - ((((x0).toUInt32 >>> ((1 : Int32).toUInt32 &&& Int32.toUInt32 31)).toInt32) &&& 1431655765)) &&& 858993459) + (((((x0 - ((((x0).toUInt32 >>> ((1 : Int32).toUInt32 &&& Int32.toUInt32 31)).toInt32) &&& 1431655765))).toUInt32 >>> ((2 : Int32).toUInt32 &&& Int32.toUInt32 31)).toInt32) &&& 858993459))).toUInt32 >>> ((4 : Int32).toUInt32 &&& Int32.toUInt32 31)).toInt32)) &&& 252645135)).toUInt32 >>> ((8 : Int32).toUInt32 &&& Int32.toUInt32 31)).toInt32))).toUInt32 >>> ((16 : Int32).toUInt32 &&& Int32.toUInt32 31)).toInt32)) hx hb zd_J6_bitCount_0f7a4_45 rfl ?_
  refine lv_iadd hx hb zd_J6_bitCount_0f7a4_46 ?_
  refine lv_istore_n (i := 0) (lv' := [(0, .int ((((((((x0 - ((((x0).toUInt32 >>> ((1 : Int32).toUInt32 &&& Int32.toUInt32 31)).toInt32) &&& 1431655765)) &&& 858993459) + (((((x0 - ((((x0).toUInt32 >>> ((1 : Int32).toUInt32 &&& Int32.toUInt32 31)).toInt32) &&& 1431655765))).toUInt32 >>> ((2 : Int32).toUInt32 &&& Int32.toUInt32 31)).toInt32) &&& 858993459)) + ((((((x0 - ((((x0).toUInt32 >>> ((1 : Int32).toUInt32 &&& Int32.toUInt32 31)).toInt32) &&& 1431655765)) &&& 858993459) + (((((x0 - ((((x0).toUInt32 >>> ((1 : Int32).toUInt32 &&& Int32.toUInt32 31)).toInt32) &&& 1431655765))).toUInt32 >>> ((2 : Int32).toUInt32 &&& Int32.toUInt32 31)).toInt32) &&& 858993459))).toUInt32 >>> ((4 : Int32).toUInt32 &&& Int32.toUInt32 31)).toInt32)) &&& 252645135) + ((((((((x0 - ((((x0).toUInt32 >>> ((1 : Int32).toUInt32 &&& Int32.toUInt32 31)).toInt32) &&& 1431655765)) &&& 858993459) + (((((x0 - ((((x0).toUInt32 >>> ((1 : Int32).toUInt32 &&& Int32.toUInt32 31)).toInt32) &&& 1431655765))).toUInt32 >>> ((2 : Int32).toUInt32 &&& Int32.toUInt32 31)).toInt32) &&& 858993459)) + ((((((x0 - ((((x0).toUInt32 >>> ((1 : Int32).toUInt32 &&& Int32.toUInt32 31)).toInt32) &&& 1431655765)) &&& 858993459) + (((((x0 - ((((x0).toUInt32 >>> ((1 : Int32).toUInt32 &&& Int32.toUInt32 31)).toInt32) &&& 1431655765))).toUInt32 >>> ((2 : Int32).toUInt32 &&& Int32.toUInt32 31)).toInt32) &&& 858993459))).toUInt32 >>> ((4 : Int32).toUInt32 &&& Int32.toUInt32 31)).toInt32)) &&& 252645135)).toUInt32 >>> ((8 : Int32).toUInt32 &&& Int32.toUInt32 31)).toInt32)) + (((((((((x0 - ((((x0).toUInt32 >>> ((1 : Int32).toUInt32 &&& Int32.toUInt32 31)).toInt32) &&& 1431655765)) &&& 858993459) + (((((x0 - ((((x0).toUInt32 >>> ((1 : Int32).toUInt32 &&& Int32.toUInt32 31)).toInt32) &&& 1431655765))).toUInt32 >>> ((2 : Int32).toUInt32 &&& Int32.toUInt32 31)).toInt32) &&& 858993459)) + ((((((x0 - ((((x0).toUInt32 >>> ((1 : Int32).toUInt32 &&& Int32.toUInt32 31)).toInt32) &&& 1431655765)) &&& 858993459) + (((((x0 - ((((x0).toUInt32 >>> ((1 : Int32).toUInt32 &&& Int32.toUInt32 31)).toInt32) &&& 1431655765))).toUInt32 >>> ((2 : Int32).toUInt32 &&& Int32.toUInt32 31)).toInt32) &&& 858993459))).toUInt32 >>> ((4 : Int32).toUInt32 &&& Int32.toUInt32 31)).toInt32)) &&& 252645135) + ((((((((x0 - ((((x0).toUInt32 >>> ((1 : Int32).toUInt32 &&& Int32.toUInt32 31)).toInt32) &&& 1431655765)) &&& 858993459) + (((((x0 - ((((x0).toUInt32 >>> ((1 : Int32).toUInt32 &&& Int32.toUInt32 31)).toInt32) &&& 1431655765))).toUInt32 >>> ((2 : Int32).toUInt32 &&& Int32.toUInt32 31)).toInt32) &&& 858993459)) + ((((((x0 - ((((x0).toUInt32 >>> ((1 : Int32).toUInt32 &&& Int32.toUInt32 31)).toInt32) &&& 1431655765)) &&& 858993459) + (((((x0 - ((((x0).toUInt32 >>> ((1 : Int32).toUInt32 &&& Int32.toUInt32 31)).toInt32) &&& 1431655765))).toUInt32 >>> ((2 : Int32).toUInt32 &&& Int32.toUInt32 31)).toInt32) &&& 858993459))).toUInt32 >>> ((4 : Int32).toUInt32 &&& Int32.toUInt32 31)).toInt32)) &&& 252645135)).toUInt32 >>> ((8 : Int32).toUInt32 &&& Int32.toUInt32 31)).toInt32))).toUInt32 >>> ((16 : Int32).toUInt32 &&& Int32.toUInt32 31)).toInt32))))]) hx hb zd_J6_bitCount_0f7a4_47 rfl hl (by decide) rfl (fun ls hl => ?_)
  refine lv_iload_n hx hb zd_J6_bitCount_0f7a4_48 rfl (lv_at hl 0 rfl) ?_
  refine lv_bipush (v := 63) hx hb zd_J6_bitCount_0f7a4_49 (by decide) ?_
  refine lv_iand hx hb zd_J6_bitCount_0f7a4_51 ?_
  have hres := Option.some.inj hf; subst hres
  exact zw_iret (v := ((((((((x0 - ((((x0).toUInt32 >>> ((1 : Int32).toUInt32 &&& Int32.toUInt32 31)).toInt32) &&& 1431655765)) &&& 858993459) + (((((x0 - ((((x0).toUInt32 >>> ((1 : Int32).toUInt32 &&& Int32.toUInt32 31)).toInt32) &&& 1431655765))).toUInt32 >>> ((2 : Int32).toUInt32 &&& Int32.toUInt32 31)).toInt32) &&& 858993459)) + ((((((x0 - ((((x0).toUInt32 >>> ((1 : Int32).toUInt32 &&& Int32.toUInt32 31)).toInt32) &&& 1431655765)) &&& 858993459) + (((((x0 - ((((x0).toUInt32 >>> ((1 : Int32).toUInt32 &&& Int32.toUInt32 31)).toInt32) &&& 1431655765))).toUInt32 >>> ((2 : Int32).toUInt32 &&& Int32.toUInt32 31)).toInt32) &&& 858993459))).toUInt32 >>> ((4 : Int32).toUInt32 &&& Int32.toUInt32 31)).toInt32)) &&& 252645135) + ((((((((x0 - ((((x0).toUInt32 >>> ((1 : Int32).toUInt32 &&& Int32.toUInt32 31)).toInt32) &&& 1431655765)) &&& 858993459) + (((((x0 - ((((x0).toUInt32 >>> ((1 : Int32).toUInt32 &&& Int32.toUInt32 31)).toInt32) &&& 1431655765))).toUInt32 >>> ((2 : Int32).toUInt32 &&& Int32.toUInt32 31)).toInt32) &&& 858993459)) + ((((((x0 - ((((x0).toUInt32 >>> ((1 : Int32).toUInt32 &&& Int32.toUInt32 31)).toInt32) &&& 1431655765)) &&& 858993459) + (((((x0 - ((((x0).toUInt32 >>> ((1 : Int32).toUInt32 &&& Int32.toUInt32 31)).toInt32) &&& 1431655765))).toUInt32 >>> ((2 : Int32).toUInt32 &&& Int32.toUInt32 31)).toInt32) &&& 858993459))).toUInt32 >>> ((4 : Int32).toUInt32 &&& Int32.toUInt32 31)).toInt32)) &&& 252645135)).toUInt32 >>> ((8 : Int32).toUInt32 &&& Int32.toUInt32 31)).toInt32)) + (((((((((x0 - ((((x0).toUInt32 >>> ((1 : Int32).toUInt32 &&& Int32.toUInt32 31)).toInt32) &&& 1431655765)) &&& 858993459) + (((((x0 - ((((x0).toUInt32 >>> ((1 : Int32).toUInt32 &&& Int32.toUInt32 31)).toInt32) &&& 1431655765))).toUInt32 >>> ((2 : Int32).toUInt32 &&& Int32.toUInt32 31)).toInt32) &&& 858993459)) + ((((((x0 - ((((x0).toUInt32 >>> ((1 : Int32).toUInt32 &&& Int32.toUInt32 31)).toInt32) &&& 1431655765)) &&& 858993459) + (((((x0 - ((((x0).toUInt32 >>> ((1 : Int32).toUInt32 &&& Int32.toUInt32 31)).toInt32) &&& 1431655765))).toUInt32 >>> ((2 : Int32).toUInt32 &&& Int32.toUInt32 31)).toInt32) &&& 858993459))).toUInt32 >>> ((4 : Int32).toUInt32 &&& Int32.toUInt32 31)).toInt32)) &&& 252645135) + ((((((((x0 - ((((x0).toUInt32 >>> ((1 : Int32).toUInt32 &&& Int32.toUInt32 31)).toInt32) &&& 1431655765)) &&& 858993459) + (((((x0 - ((((x0).toUInt32 >>> ((1 : Int32).toUInt32 &&& Int32.toUInt32 31)).toInt32) &&& 1431655765))).toUInt32 >>> ((2 : Int32).toUInt32 &&& Int32.toUInt32 31)).toInt32) &&& 858993459)) + ((((((x0 - ((((x0).toUInt32 >>> ((1 : Int32).toUInt32 &&& Int32.toUInt32 31)).toInt32) &&& 1431655765)) &&& 858993459) + (((((x0 - ((((x0).toUInt32 >>> ((1 : Int32).toUInt32 &&& Int32.toUInt32 31)).toInt32) &&& 1431655765))).toUInt32 >>> ((2 : Int32).toUInt32 &&& Int32.toUInt32 31)).toInt32) &&& 858993459))).toUInt32 >>> ((4 : Int32).toUInt32 &&& Int32.toUInt32 31)).toInt32)) &&& 252645135)).toUInt32 >>> ((8 : Int32).toUInt32 &&& Int32.toUInt32 31)).toInt32))).toUInt32 >>> ((16 : Int32).toUInt32 &&& Int32.toUInt32 31)).toInt32)) &&& 63)) (ty := .int) hx hb hr hlk rfl hw zd_J6_bitCount_0f7a4_52 (Nat.le_refl 0) (Nat.le_refl 0)
def zf_X9_remarkOf (h : zc_H) (q : Nat) (x1 : Int32) (x2 : Int32) : Option (zc_H × Int32) :=
  if ¬ zf_is h q 9 = true then none else
  (zf_gr h q 9 1).bind fun v1 =>
  v1.bind fun a3 =>
  (zf_X6_remarkAt h a3 x1).bind fun r4 =>
  let k23 := fun (_ : Unit) =>
    (zf_X9_refuse h q (-5)).bind fun r6 =>
    some (r6.1, r6.2)
  if r4 = none then
    k23 ()
  else
  if x2 < 0 then
    k23 ()
  else
  if x2 ≤ 9 then
    if x2 = 0 then
      r4.bind fun a10 =>
      (zf_gi h a10 3 1).bind fun v11 =>
      some (h, v11)
    else
    if x2 = 1 then
      r4.bind fun a14 =>
      (zf_gi h a14 3 2).bind fun v15 =>
      some (h, v15)
    else
    if x2 = 2 then
      r4.bind fun a18 =>
      (zf_gr h a18 3 3).bind fun v19 =>
      v19.bind fun a21 =>
      (zf_gi h a21 4 0).bind fun v22 =>
      some (h, v22)
    else
    if x2 = 3 then
      r4.bind fun a25 =>
      (zf_gi h a25 3 4).bind fun v26 =>
      (zf_X9_firstOf h v26).bind fun r28 =>
      some (h, r28)
    else
    if x2 = 4 then
      r4.bind fun a30 =>
      (zf_gi h a30 3 4).bind fun v31 =>
      (zf_X9_lastOf h v31).bind fun r33 =>
      some (h, r33)
    else
    if x2 = 5 then
      r4.bind fun a35 =>
      (zf_gi h a35 3 5).bind fun v36 =>
      some (h, v36)
    else
    if x2 = 6 then
      (zf_gr h q 9 1).bind fun v39 =>
      v39.bind fun a41 =>
      (zf_X6_isSettled h a41 x1).bind fun r42 =>
      if r42 = 0 then
        some (h, 0)
      else
      some (h, 1)
    else
    if x2 = 7 then
      (zf_gr h q 9 1).bind fun v45 =>
      v45.bind fun a47 =>
      (zf_X6_depthOf h a47 x1).bind fun r48 =>
      some (h, r48)
    else
    if x2 = 8 then
      (zf_gr h q 9 1).bind fun v50 =>
      v50.bind fun a52 =>
      (zf_X6_threadOf h a52 x1).bind fun r53 =>
      (zf_J6_bitCount_0f7a4 h r53).bind fun r54 =>
      some (h, r54)
    else
    (zf_gr h q 9 1).bind fun v55 =>
    v55.bind fun a57 =>
    (zf_X6_isOpen h a57 x1).bind fun r58 =>
    if r58 = 0 then
      some (h, 0)
    else
    some (h, 1)
  else
  k23 ()
abbrev zr_X9_remarkOf : Room := { frames := 5, cells := 0, slots := 0, locals := 109 }
theorem zi_X9_remarkOf {h : zc_H} {q : Nat} {x1 : Int32} {x2 : Int32} {res : zc_H × Int32} (hf : zf_X9_remarkOf h q x1 x2 = some res) : zf_is h q 9 = true := Decidable.not_not.mp (zo_n hf).1
set_option maxHeartbeats 4000000 in
set_option maxRecDepth 20000 in
theorem zt_X9_remarkOf (l : Launch) (g : zc_G) (h : zc_H) (q : Nat) (x1 : Int32) (x2 : Int32) (res : zc_H × Int32) (hf : zf_X9_remarkOf h q x1 x2 = some res) : zc_M l g yX9_remarkOf cX9_remarkOf 4 (some .int) zr_X9_remarkOf h [va_rf ((some q)), .int (x1), .int (x2)] res.1 (some (.int (res.2))) := by
  refine zc_M.of (by decide) (by simp [lg_sl, zv_cat, zv_ci, zv_cj]) ?_
  intro p e s m below meth c ls S hK hw hr hlk hnm hl
  replace S : CallFix p m c cX9_remarkOf 4 s [va_rf ((some q)), .int (x1), .int (x2)].toArray (zc_ws yX9_remarkOf cX9_remarkOf 4 (some .int)) RX9 := S
  have hx := S.1
  have hb := S.2.1
  replace hl : lv_has ls 4 [(0, va_rf ((some q))), (1, .int (x1)), (2, .int (x2))] := by simpa [lv_args, zv_cat, zv_ci, zv_cj] using hl
  generalize s.heap = H at hw ⊢
  obtain ⟨locs, hlocs⟩ : ∃ L : List Loc, L = [] := ⟨_, rfl⟩
  rw [← hlocs] at hw ⊢
  unfold zf_X9_remarkOf at hf
  obtain ⟨-, hf⟩ := zo_n hf
  refine zl_aload_n hx hb zd_X9_remarkOf_0 rfl (lv_at hl 0 rfl) ?_
  replace hf := zo_b hf; obtain ⟨v1, ev1, hf⟩ := hf
  obtain ⟨u2, u2e, u2v⟩ := zo_b ev1
  obtain rfl := zv_r_e u2v
  refine zw_get S hK hw zk_9 (k := 1) (by decide) rfl zm_308 (Or.inl rfl) u2e zd_X9_remarkOf_1 ?_
  refine lv_iload_n hx hb zd_X9_remarkOf_4 rfl (lv_at hl 1 rfl) ?_
  replace hf := zo_b hf; obtain ⟨a3, na3, hf⟩ := hf
  refine W.eq (g2 := F0 m 5 ls [.int (x1), va_rf ((some a3))]) (by rw [na3] <;> rfl) ?_
  replace hf := zo_b hf; obtain ⟨r4, er4, hf⟩ := hf
  refine zw_callV (n := 1) (ci := 6) (q := zc_cl[6]) (As := [.int (x1)]) (rest := []) S hK hw (zt_X6_remarkAt l g h a3 x1 _ er4) zm_420 zm_421 zm_422 zq_X6_remarkAt zm_69 (by decide +kernel) ⟨Nat.le_of_ble_eq_true rfl, Nat.le_of_ble_eq_true rfl⟩ rfl rfl rfl (zi_X6_remarkAt er4) hl.1 rfl (by simp [zv_cat, zv_ci, zv_cj]) zd_X9_remarkOf_5 ⟨(Nat.le_refl 0), (Nat.le_refl 0)⟩ (fun H locs hw => ?_)
  replace hw : zc_W g h H locs := hw
  refine zl_astore_n (i := 3) (lv' := [(3, va_rf (r4)), (0, va_rf ((some q))), (1, .int (x1)), (2, .int (x2))]) hx hb zd_X9_remarkOf_8 rfl hl (by decide) rfl (fun ls hl => ?_)
  refine zl_aload_n hx hb zd_X9_remarkOf_9 rfl (lv_at hl 0 rfl) ?_
  have k23h : ∀ (_ : Unit) (H : Heap) (locs : List Loc) (ls : Array Slot), (
      (zf_X9_refuse h q (-5)).bind fun r6 =>
      some (r6.1, r6.2)
      ) = some res → zc_W g h H locs → lv_has ls 4 [(0, va_rf ((some q)))] → W p l e zr_X9_remarkOf s m [va_rf ((some q)), .int (x1), .int (x2)].toArray below meth c H locs (0 + 0) (0 + 0) (zc_Q g below zr_X9_remarkOf (some (.int (res.2))) res.1 [va_rf ((some q)), .int (x1), .int (x2)] s) (F0 m 23 ls []) := by
    intro _ H locs ls hf hw hl
    refine zl_aload_n hx hb zd_X9_remarkOf_23 rfl (lv_at hl 0 rfl) ?_
    refine lv_bipush (v := (-5)) hx hb zd_X9_remarkOf_24 (by decide) ?_
    replace hf := zo_b hf; obtain ⟨r6, er6, hf⟩ := hf
    refine zw_callV (n := 1) (ci := 9) (q := zc_cl[9]) (As := [.int ((-5))]) (rest := []) S hK hw (zt_X9_refuse l g h q (-5) _ er6) zm_349 zm_351 zm_1 zq_X9_refuse zm_68 (by decide +kernel) ⟨Nat.le_of_ble_eq_true rfl, Nat.le_of_ble_eq_true rfl⟩ rfl rfl rfl (zi_X9_refuse er6) hl.1 rfl (by simp [zv_cat, zv_ci, zv_cj]) zd_X9_remarkOf_26 ⟨(Nat.le_refl 0), (Nat.le_refl 0)⟩ (fun H locs hw => ?_)
    replace hw : zc_W g r6.1 H locs := hw
    have hres := Option.some.inj hf; subst hres
    exact zw_iret (v := r6.2) (ty := .int) hx hb hr hlk rfl hw zd_X9_remarkOf_29 (Nat.le_refl 0) (Nat.le_refl 0)
  refine zl_ifnull (tgt := 23) hx hb zd_X9_remarkOf_10 (by decide) (fun c5 => ?_) (fun c5 => ?_)
  · replace hf := zo_t c5 hf
    exact k23h () _ _ _ hf hw (lv_sub hl [1] rfl)
  · replace hf := zo_f c5 hf
    refine lv_iload_n hx hb zd_X9_remarkOf_13 rfl (lv_at hl 3 rfl) ?_
    refine lv_if_lt (tgt := 23) hx hb zd_X9_remarkOf_14 (by decide) (fun c7 => ?_) (fun c7 => ?_)
    · replace hf := zo_t c7 hf
      exact k23h () _ _ _ hf hw (lv_sub hl [1] rfl)
    · replace hf := zo_f c7 hf
      refine lv_iload_n hx hb zd_X9_remarkOf_17 rfl (lv_at hl 3 rfl) ?_
      refine lv_bipush (v := 9) hx hb zd_X9_remarkOf_18 (by decide) ?_
      refine lv_icmp_le (tgt := 30) hx hb zd_X9_remarkOf_20 (by decide) (fun c8 => ?_) (fun c8 => ?_)
      · replace hf := zo_t c8 hf
        refine lv_iload_n hx hb zd_X9_remarkOf_30 rfl (lv_at hl 3 rfl) ?_
        by_cases c9 : x2 = 0
        · replace hf := zo_t c9 hf
          refine W.eq (g2 := F0 m 31 ls (.int 0 :: [])) (by rw [c9] <;> rfl) ?_
          refine lv_tableIn (off := 49) (tgt := 80) hx hb zd_X9_remarkOf_31 (by decide) (by decide) (by decide) (by decide) ?_
          refine zl_aload_n hx hb zd_X9_remarkOf_80 rfl (lv_at hl 0 rfl) ?_
          replace hf := zo_b hf; obtain ⟨a10, na10, hf⟩ := hf
          refine W.eq (g2 := F0 m 81 ls [va_rf ((some a10))]) (by rw [na10] <;> rfl) ?_
          replace hf := zo_b hf; obtain ⟨v11, ev11, hf⟩ := hf
          obtain ⟨u12, u12e, u12v⟩ := zo_b ev11
          obtain rfl := zv_i_e u12v
          refine zw_get S hK hw zk_3 (k := 1) (by decide) rfl zm_761 (Or.inl rfl) u12e zd_X9_remarkOf_81 ?_
          have hres := Option.some.inj hf; subst hres
          exact zw_iret (v := v11) (ty := .int) hx hb hr hlk rfl hw zd_X9_remarkOf_84 (Nat.le_refl 0) (Nat.le_refl 0)
        replace hf := zo_f c9 hf
        by_cases c13 : x2 = 1
        · replace hf := zo_t c13 hf
          refine W.eq (g2 := F0 m 31 ls (.int 1 :: [])) (by rw [c13] <;> rfl) ?_
          refine lv_tableIn (off := 54) (tgt := 85) hx hb zd_X9_remarkOf_31 (by decide) (by decide) (by decide) (by decide) ?_
          refine zl_aload_n hx hb zd_X9_remarkOf_85 rfl (lv_at hl 0 rfl) ?_
          replace hf := zo_b hf; obtain ⟨a14, na14, hf⟩ := hf
          refine W.eq (g2 := F0 m 86 ls [va_rf ((some a14))]) (by rw [na14] <;> rfl) ?_
          replace hf := zo_b hf; obtain ⟨v15, ev15, hf⟩ := hf
          obtain ⟨u16, u16e, u16v⟩ := zo_b ev15
          obtain rfl := zv_i_e u16v
          refine zw_get S hK hw zk_3 (k := 2) (by decide) rfl zm_764 (Or.inl rfl) u16e zd_X9_remarkOf_86 ?_
          have hres := Option.some.inj hf; subst hres
          exact zw_iret (v := v15) (ty := .int) hx hb hr hlk rfl hw zd_X9_remarkOf_89 (Nat.le_refl 0) (Nat.le_refl 0)
        replace hf := zo_f c13 hf
        by_cases c17 : x2 = 2
        · replace hf := zo_t c17 hf
          refine W.eq (g2 := F0 m 31 ls (.int 2 :: [])) (by rw [c17] <;> rfl) ?_
          refine lv_tableIn (off := 59) (tgt := 90) hx hb zd_X9_remarkOf_31 (by decide) (by decide) (by decide) (by decide) ?_
          refine zl_aload_n hx hb zd_X9_remarkOf_90 rfl (lv_at hl 0 rfl) ?_
          replace hf := zo_b hf; obtain ⟨a18, na18, hf⟩ := hf
          refine W.eq (g2 := F0 m 91 ls [va_rf ((some a18))]) (by rw [na18] <;> rfl) ?_
          replace hf := zo_b hf; obtain ⟨v19, ev19, hf⟩ := hf
          obtain ⟨u20, u20e, u20v⟩ := zo_b ev19
          obtain rfl := zv_r_e u20v
          refine zw_get S hK hw zk_3 (k := 3) (by decide) rfl zm_768 (Or.inl rfl) u20e zd_X9_remarkOf_91 ?_
          replace hf := zo_b hf; obtain ⟨a21, na21, hf⟩ := hf
          refine W.eq (g2 := F0 m 94 ls [va_rf ((some a21))]) (by rw [na21] <;> rfl) ?_
          replace hf := zo_b hf; obtain ⟨v22, ev22, hf⟩ := hf
          obtain ⟨u23, u23e, u23v⟩ := zo_b ev22
          obtain rfl := zv_i_e u23v
          refine zw_get S hK hw zk_4 (k := 0) (by decide) rfl zm_531 (Or.inl rfl) u23e zd_X9_remarkOf_94 ?_
          have hres := Option.some.inj hf; subst hres
          exact zw_iret (v := v22) (ty := .int) hx hb hr hlk rfl hw zd_X9_remarkOf_97 (Nat.le_refl 0) (Nat.le_refl 0)
        replace hf := zo_f c17 hf
        by_cases c24 : x2 = 3
        · replace hf := zo_t c24 hf
          refine W.eq (g2 := F0 m 31 ls (.int 3 :: [])) (by rw [c24] <;> rfl) ?_
          refine lv_tableIn (off := 67) (tgt := 98) hx hb zd_X9_remarkOf_31 (by decide) (by decide) (by decide) (by decide) ?_
          refine zl_aload_n hx hb zd_X9_remarkOf_98 rfl (lv_at hl 0 rfl) ?_
          replace hf := zo_b hf; obtain ⟨a25, na25, hf⟩ := hf
          refine W.eq (g2 := F0 m 99 ls [va_rf ((some a25))]) (by rw [na25] <;> rfl) ?_
          replace hf := zo_b hf; obtain ⟨v26, ev26, hf⟩ := hf
          obtain ⟨u27, u27e, u27v⟩ := zo_b ev26
          obtain rfl := zv_i_e u27v
          refine zw_get S hK hw zk_3 (k := 4) (by decide) rfl zm_771 (Or.inl rfl) u27e zd_X9_remarkOf_99 ?_
          replace hf := zo_b hf; obtain ⟨r28, er28, hf⟩ := hf
          refine zw_callS (n := 1) (As := [.int (v26)]) (rest := []) S hK hw (zt_X9_firstOf l g h v26 _ er28) zm_473 zm_474 zq_X9_firstOf zm_68 (by decide +kernel) ⟨Nat.le_of_ble_eq_true rfl, Nat.le_of_ble_eq_true rfl⟩ rfl hl.1 rfl (by simp [zv_cat, zv_ci, zv_cj]) zd_X9_remarkOf_102 ⟨(Nat.le_refl 0), (Nat.le_refl 0)⟩ (fun H locs hw => ?_)
          replace hw : zc_W g h H locs := hw
          have hres := Option.some.inj hf; subst hres
          exact zw_iret (v := r28) (ty := .int) hx hb hr hlk rfl hw zd_X9_remarkOf_105 (Nat.le_refl 0) (Nat.le_refl 0)
        replace hf := zo_f c24 hf
        by_cases c29 : x2 = 4
        · replace hf := zo_t c29 hf
          refine W.eq (g2 := F0 m 31 ls (.int 4 :: [])) (by rw [c29] <;> rfl) ?_
          refine lv_tableIn (off := 75) (tgt := 106) hx hb zd_X9_remarkOf_31 (by decide) (by decide) (by decide) (by decide) ?_
          refine zl_aload_n hx hb zd_X9_remarkOf_106 rfl (lv_at hl 0 rfl) ?_
          replace hf := zo_b hf; obtain ⟨a30, na30, hf⟩ := hf
          refine W.eq (g2 := F0 m 107 ls [va_rf ((some a30))]) (by rw [na30] <;> rfl) ?_
          replace hf := zo_b hf; obtain ⟨v31, ev31, hf⟩ := hf
          obtain ⟨u32, u32e, u32v⟩ := zo_b ev31
          obtain rfl := zv_i_e u32v
          refine zw_get S hK hw zk_3 (k := 4) (by decide) rfl zm_771 (Or.inl rfl) u32e zd_X9_remarkOf_107 ?_
          replace hf := zo_b hf; obtain ⟨r33, er33, hf⟩ := hf
          refine zw_callS (n := 1) (As := [.int (v31)]) (rest := []) S hK hw (zt_X9_lastOf l g h v31 _ er33) zm_470 zm_471 zq_X9_lastOf zm_68 (by decide +kernel) ⟨Nat.le_of_ble_eq_true rfl, Nat.le_of_ble_eq_true rfl⟩ rfl hl.1 rfl (by simp [zv_cat, zv_ci, zv_cj]) zd_X9_remarkOf_110 ⟨(Nat.le_refl 0), (Nat.le_refl 0)⟩ (fun H locs hw => ?_)
          replace hw : zc_W g h H locs := hw
          have hres := Option.some.inj hf; subst hres
          exact zw_iret (v := r33) (ty := .int) hx hb hr hlk rfl hw zd_X9_remarkOf_113 (Nat.le_refl 0) (Nat.le_refl 0)
        replace hf := zo_f c29 hf
        by_cases c34 : x2 = 5
        · replace hf := zo_t c34 hf
          refine W.eq (g2 := F0 m 31 ls (.int 5 :: [])) (by rw [c34] <;> rfl) ?_
          refine lv_tableIn (off := 83) (tgt := 114) hx hb zd_X9_remarkOf_31 (by decide) (by decide) (by decide) (by decide) ?_
          refine zl_aload_n hx hb zd_X9_remarkOf_114 rfl (lv_at hl 0 rfl) ?_
          replace hf := zo_b hf; obtain ⟨a35, na35, hf⟩ := hf
          refine W.eq (g2 := F0 m 115 ls [va_rf ((some a35))]) (by rw [na35] <;> rfl) ?_
          replace hf := zo_b hf; obtain ⟨v36, ev36, hf⟩ := hf
          obtain ⟨u37, u37e, u37v⟩ := zo_b ev36
          obtain rfl := zv_i_e u37v
          refine zw_get S hK hw zk_3 (k := 5) (by decide) rfl zm_774 (Or.inl rfl) u37e zd_X9_remarkOf_115 ?_
          have hres := Option.some.inj hf; subst hres
          exact zw_iret (v := v36) (ty := .int) hx hb hr hlk rfl hw zd_X9_remarkOf_118 (Nat.le_refl 0) (Nat.le_refl 0)
        replace hf := zo_f c34 hf
        by_cases c38 : x2 = 6
        · replace hf := zo_t c38 hf
          refine W.eq (g2 := F0 m 31 ls (.int 6 :: [])) (by rw [c38] <;> rfl) ?_
          refine lv_tableIn (off := 88) (tgt := 119) hx hb zd_X9_remarkOf_31 (by decide) (by decide) (by decide) (by decide) ?_
          refine zl_aload_n hx hb zd_X9_remarkOf_119 rfl (lv_at hl 1 rfl) ?_
          replace hf := zo_b hf; obtain ⟨v39, ev39, hf⟩ := hf
          obtain ⟨u40, u40e, u40v⟩ := zo_b ev39
          obtain rfl := zv_r_e u40v
          refine zw_get S hK hw zk_9 (k := 1) (by decide) rfl zm_308 (Or.inl rfl) u40e zd_X9_remarkOf_120 ?_
          refine lv_iload_n hx hb zd_X9_remarkOf_123 rfl (lv_at hl 2 rfl) ?_
          replace hf := zo_b hf; obtain ⟨a41, na41, hf⟩ := hf
          refine W.eq (g2 := F0 m 124 ls [.int (x1), va_rf ((some a41))]) (by rw [na41] <;> rfl) ?_
          replace hf := zo_b hf; obtain ⟨r42, er42, hf⟩ := hf
          refine zw_callV (n := 1) (ci := 6) (q := zc_cl[6]) (As := [.int (x1)]) (rest := []) S hK hw (zt_X6_isSettled l g h a41 x1 _ er42) zm_792 zm_793 zm_794 zq_X6_isSettled zm_69 (by decide +kernel) ⟨Nat.le_of_ble_eq_true rfl, Nat.le_of_ble_eq_true rfl⟩ rfl rfl rfl (zi_X6_isSettled er42) hl.1 rfl (by simp [zv_cat, zv_ci, zv_cj]) zd_X9_remarkOf_124 ⟨(Nat.le_refl 0), (Nat.le_refl 0)⟩ (fun H locs hw => ?_)
          replace hw : zc_W g h H locs := hw
          refine lv_if_eq (tgt := 134) hx hb zd_X9_remarkOf_127 (by decide) (fun c43 => ?_) (fun c43 => ?_)
          · replace hf := zo_t c43 hf
            refine lv_iconst (v := 0) hx hb zd_X9_remarkOf_134 (by decide) ?_
            have hres := Option.some.inj hf; subst hres
            exact zw_iret (v := 0) (ty := .int) hx hb hr hlk rfl hw zd_X9_remarkOf_135 (Nat.le_refl 0) (Nat.le_refl 0)
          · replace hf := zo_f c43 hf
            refine lv_iconst (v := 1) hx hb zd_X9_remarkOf_130 (by decide) ?_
            refine lv_goto (tgt := 135) hx hb zd_X9_remarkOf_131 (by decide) ?_
            have hres := Option.some.inj hf; subst hres
            exact zw_iret (v := 1) (ty := .int) hx hb hr hlk rfl hw zd_X9_remarkOf_135 (Nat.le_refl 0) (Nat.le_refl 0)
        replace hf := zo_f c38 hf
        by_cases c44 : x2 = 7
        · replace hf := zo_t c44 hf
          refine W.eq (g2 := F0 m 31 ls (.int 7 :: [])) (by rw [c44] <;> rfl) ?_
          refine lv_tableIn (off := 105) (tgt := 136) hx hb zd_X9_remarkOf_31 (by decide) (by decide) (by decide) (by decide) ?_
          refine zl_aload_n hx hb zd_X9_remarkOf_136 rfl (lv_at hl 1 rfl) ?_
          replace hf := zo_b hf; obtain ⟨v45, ev45, hf⟩ := hf
          obtain ⟨u46, u46e, u46v⟩ := zo_b ev45
          obtain rfl := zv_r_e u46v
          refine zw_get S hK hw zk_9 (k := 1) (by decide) rfl zm_308 (Or.inl rfl) u46e zd_X9_remarkOf_137 ?_
          refine lv_iload_n hx hb zd_X9_remarkOf_140 rfl (lv_at hl 2 rfl) ?_
          replace hf := zo_b hf; obtain ⟨a47, na47, hf⟩ := hf
          refine W.eq (g2 := F0 m 141 ls [.int (x1), va_rf ((some a47))]) (by rw [na47] <;> rfl) ?_
          replace hf := zo_b hf; obtain ⟨r48, er48, hf⟩ := hf
          refine zw_callV (n := 1) (ci := 6) (q := zc_cl[6]) (As := [.int (x1)]) (rest := []) S hK hw (zt_X6_depthOf l g h a47 x1 _ er48) zm_796 zm_797 zm_798 zq_X6_depthOf zm_69 (by decide +kernel) ⟨Nat.le_of_ble_eq_true rfl, Nat.le_of_ble_eq_true rfl⟩ rfl rfl rfl (zi_X6_depthOf er48) hl.1 rfl (by simp [zv_cat, zv_ci, zv_cj]) zd_X9_remarkOf_141 ⟨(Nat.le_refl 0), (Nat.le_refl 0)⟩ (fun H locs hw => ?_)
          replace hw : zc_W g h H locs := hw
          have hres := Option.some.inj hf; subst hres
          exact zw_iret (v := r48) (ty := .int) hx hb hr hlk rfl hw zd_X9_remarkOf_144 (Nat.le_refl 0) (Nat.le_refl 0)
        replace hf := zo_f c44 hf
        by_cases c49 : x2 = 8
        · replace hf := zo_t c49 hf
          refine W.eq (g2 := F0 m 31 ls (.int 8 :: [])) (by rw [c49] <;> rfl) ?_
          refine lv_tableIn (off := 114) (tgt := 145) hx hb zd_X9_remarkOf_31 (by decide) (by decide) (by decide) (by decide) ?_
          refine zl_aload_n hx hb zd_X9_remarkOf_145 rfl (lv_at hl 1 rfl) ?_
          replace hf := zo_b hf; obtain ⟨v50, ev50, hf⟩ := hf
          obtain ⟨u51, u51e, u51v⟩ := zo_b ev50
          obtain rfl := zv_r_e u51v
          refine zw_get S hK hw zk_9 (k := 1) (by decide) rfl zm_308 (Or.inl rfl) u51e zd_X9_remarkOf_146 ?_
          refine lv_iload_n hx hb zd_X9_remarkOf_149 rfl (lv_at hl 2 rfl) ?_
          replace hf := zo_b hf; obtain ⟨a52, na52, hf⟩ := hf
          refine W.eq (g2 := F0 m 150 ls [.int (x1), va_rf ((some a52))]) (by rw [na52] <;> rfl) ?_
          replace hf := zo_b hf; obtain ⟨r53, er53, hf⟩ := hf
          refine zw_callV (n := 1) (ci := 6) (q := zc_cl[6]) (As := [.int (x1)]) (rest := []) S hK hw (zt_X6_threadOf l g h a52 x1 _ er53) zm_801 zm_802 zm_803 zq_X6_threadOf zm_69 (by decide +kernel) ⟨Nat.le_of_ble_eq_true rfl, Nat.le_of_ble_eq_true rfl⟩ rfl rfl rfl (zi_X6_threadOf er53) hl.1 rfl (by simp [zv_cat, zv_ci, zv_cj]) zd_X9_remarkOf_150 ⟨(Nat.le_refl 0), (Nat.le_refl 0)⟩ (fun H locs hw => ?_)
          replace hw : zc_W g h H locs := hw
          replace hf := zo_b hf; obtain ⟨r54, er54, hf⟩ := hf
          refine zw_callS (n := 1) (As := [.int (r53)]) (rest := []) S hK hw (zt_J6_bitCount_0f7a4 l g h r53 _ er54) zm_805 zm_806 zq_J6_bitCount_0f7a4 zm_88 (by decide +kernel) ⟨Nat.le_of_ble_eq_true rfl, Nat.le_of_ble_eq_true rfl⟩ rfl hl.1 rfl (by simp [zv_cat, zv_ci, zv_cj]) zd_X9_remarkOf_153 ⟨(Nat.le_refl 0), (Nat.le_refl 0)⟩ (fun H locs hw => ?_)
          replace hw : zc_W g h H locs := hw
          have hres := Option.some.inj hf; subst hres
          exact zw_iret (v := r54) (ty := .int) hx hb hr hlk rfl hw zd_X9_remarkOf_156 (Nat.le_refl 0) (Nat.le_refl 0)
        replace hf := zo_f c49 hf
        have zc9 : (x2 : Int32).toInt ≠ 0 := fun h => c9 (Int32.toInt_inj.mp (h.trans (by decide)))
        have zc13 : (x2 : Int32).toInt ≠ 1 := fun h => c13 (Int32.toInt_inj.mp (h.trans (by decide)))
        have zc17 : (x2 : Int32).toInt ≠ 2 := fun h => c17 (Int32.toInt_inj.mp (h.trans (by decide)))
        have zc24 : (x2 : Int32).toInt ≠ 3 := fun h => c24 (Int32.toInt_inj.mp (h.trans (by decide)))
        have zc29 : (x2 : Int32).toInt ≠ 4 := fun h => c29 (Int32.toInt_inj.mp (h.trans (by decide)))
        have zc34 : (x2 : Int32).toInt ≠ 5 := fun h => c34 (Int32.toInt_inj.mp (h.trans (by decide)))
        have zc38 : (x2 : Int32).toInt ≠ 6 := fun h => c38 (Int32.toInt_inj.mp (h.trans (by decide)))
        have zc44 : (x2 : Int32).toInt ≠ 7 := fun h => c44 (Int32.toInt_inj.mp (h.trans (by decide)))
        have zc49 : (x2 : Int32).toInt ≠ 8 := fun h => c49 (Int32.toInt_inj.mp (h.trans (by decide)))
        refine lv_tableOut (tgt := 157) hx hb zd_X9_remarkOf_31 (by omega) (by decide) ?_
        refine zl_aload_n hx hb zd_X9_remarkOf_157 rfl (lv_at hl 1 rfl) ?_
        replace hf := zo_b hf; obtain ⟨v55, ev55, hf⟩ := hf
        obtain ⟨u56, u56e, u56v⟩ := zo_b ev55
        obtain rfl := zv_r_e u56v
        refine zw_get S hK hw zk_9 (k := 1) (by decide) rfl zm_308 (Or.inl rfl) u56e zd_X9_remarkOf_158 ?_
        refine lv_iload_n hx hb zd_X9_remarkOf_161 rfl (lv_at hl 2 rfl) ?_
        replace hf := zo_b hf; obtain ⟨a57, na57, hf⟩ := hf
        refine W.eq (g2 := F0 m 162 ls [.int (x1), va_rf ((some a57))]) (by rw [na57] <;> rfl) ?_
        replace hf := zo_b hf; obtain ⟨r58, er58, hf⟩ := hf
        refine zw_callV (n := 1) (ci := 6) (q := zc_cl[6]) (As := [.int (x1)]) (rest := []) S hK hw (zt_X6_isOpen l g h a57 x1 _ er58) zm_811 zm_812 zm_813 zq_X6_isOpen zm_69 (by decide +kernel) ⟨Nat.le_of_ble_eq_true rfl, Nat.le_of_ble_eq_true rfl⟩ rfl rfl rfl (zi_X6_isOpen er58) hl.1 rfl (by simp [zv_cat, zv_ci, zv_cj]) zd_X9_remarkOf_162 ⟨(Nat.le_refl 0), (Nat.le_refl 0)⟩ (fun H locs hw => ?_)
        replace hw : zc_W g h H locs := hw
        refine lv_if_eq (tgt := 172) hx hb zd_X9_remarkOf_165 (by decide) (fun c59 => ?_) (fun c59 => ?_)
        · replace hf := zo_t c59 hf
          refine lv_iconst (v := 0) hx hb zd_X9_remarkOf_172 (by decide) ?_
          have hres := Option.some.inj hf; subst hres
          exact zw_iret (v := 0) (ty := .int) hx hb hr hlk rfl hw zd_X9_remarkOf_173 (Nat.le_refl 0) (Nat.le_refl 0)
        · replace hf := zo_f c59 hf
          refine lv_iconst (v := 1) hx hb zd_X9_remarkOf_168 (by decide) ?_
          refine lv_goto (tgt := 173) hx hb zd_X9_remarkOf_169 (by decide) ?_
          have hres := Option.some.inj hf; subst hres
          exact zw_iret (v := 1) (ty := .int) hx hb hr hlk rfl hw zd_X9_remarkOf_173 (Nat.le_refl 0) (Nat.le_refl 0)
      · replace hf := zo_f c8 hf
        exact k23h () _ _ _ hf hw (lv_sub hl [1] rfl)
