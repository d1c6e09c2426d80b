def zf_X9_isKind (h : zc_H) (x0 : Int32) : Option (Int32) :=
  if x0 < 0 then
    some 0
  else
  if 7 ≤ x0 then
    some 0
  else
  some 1
abbrev zr_X9_isKind : Room := { frames := 0, cells := 0, slots := 0, locals := 0 }
set_option maxHeartbeats 4000000 in
set_option maxRecDepth 20000 in
theorem zt_X9_isKind (l : Launch) (g : zc_G) (h : zc_H) (x0 : Int32) (res : Int32) (hf : zf_X9_isKind h x0 = some res) : zc_M l g yX9_isKind cX9_isKind 1 (some .boolean) zr_X9_isKind h [.int (x0)] h (some (.int (res))) := by
  refine zc_M.of (by decide) (by simp [lg_sl, zv_cat, zv_ci, zv_cj]) ?_
  intro p e s m below meth c ls S hK hw hr hlk hnm hl
  replace S : CallFix p m c cX9_isKind 1 s [.int (x0)].toArray (zc_ws yX9_isKind cX9_isKind 1 (some .boolean)) RX9 := S
  have hx := S.1
  have hb := S.2.1
  replace hl : lv_has ls 1 [(0, .int (x0))] := by simpa [lv_args, zv_cat, zv_ci, zv_cj] using hl
  generalize s.heap = H at hw ⊢
  obtain ⟨locs, hlocs⟩ : ∃ L : List Loc, L = [] := ⟨_, rfl⟩
  rw [← hlocs] at hw ⊢
  unfold zf_X9_isKind at hf
  refine lv_iload_n hx hb zd_X9_isKind_0 rfl (lv_at hl 0 rfl) ?_
  refine lv_if_lt (tgt := 14) hx hb zd_X9_isKind_1 (by decide) (fun c1 => ?_) (fun c1 => ?_)
  · replace hf := zo_t c1 hf
    refine lv_iconst (v := 0) hx hb zd_X9_isKind_14 (by decide) ?_
    have hres := Option.some.inj hf; subst hres
    exact zw_iret (v := 0) (ty := .boolean) hx hb hr hlk rfl hw zd_X9_isKind_15 (Nat.le_refl 0) (Nat.le_refl 0)
  · replace hf := zo_f c1 hf
    refine lv_iload_n hx hb zd_X9_isKind_4 rfl (lv_at hl 0 rfl) ?_
    refine lv_bipush (v := 7) hx hb zd_X9_isKind_5 (by decide) ?_
    refine lv_icmp_ge (tgt := 14) hx hb zd_X9_isKind_7 (by decide) (fun c2 => ?_) (fun c2 => ?_)
    · replace hf := zo_t c2 hf
      refine lv_iconst (v := 0) hx hb zd_X9_isKind_14 (by decide) ?_
      have hres := Option.some.inj hf; subst hres
      exact zw_iret (v := 0) (ty := .boolean) hx hb hr hlk rfl hw zd_X9_isKind_15 (Nat.le_refl 0) (Nat.le_refl 0)
    · replace hf := zo_f c2 hf
      refine lv_iconst (v := 1) hx hb zd_X9_isKind_10 (by decide) ?_
      refine lv_goto (tgt := 15) hx hb zd_X9_isKind_11 (by decide) ?_
      have hres := Option.some.inj hf; subst hres
      exact zw_iret (v := 1) (ty := .boolean) hx hb hr hlk rfl hw zd_X9_isKind_15 (Nat.le_refl 0) (Nat.le_refl 0)
def zf_X2_bodyOf_L4 (h : zc_H) (y0 : Int32) : Nat → Int32 → Int32 → Option ((Unit) ⊕ (Int32))
  | 0, _, _ => none
  | n + 1, y2, y3 =>
    if 7 ≤ y3 then
      some (.inl ())
    else
    (zf_X9_isKind h y2).bind fun r2 =>
    if r2 = 0 then
      some (.inl ())
    else
    let k54 := fun (_ : Unit) =>
      if y2 < 0 ∨ 7 ≤ (y2 : Int32).toNatClampNeg then none else
      zf_X2_bodyOf_L4 h y0 n (zc_abv (y2 : Int32).toNatClampNeg) (y3 + 1)
    if ((y2 * 3) + y0) < 0 then
      k54 ()
    else
    if (Int32.ofNat 21) ≤ ((y2 * 3) + y0) then
      k54 ()
    else
    if ((y2 * 3) + y0) < 0 ∨ 21 ≤ (((y2 * 3) + y0) : Int32).toNatClampNeg then none else
    if (zc_bod (((y2 * 3) + y0) : Int32).toNatClampNeg) = 0 then
      k54 ()
    else
    some (.inr ((y2 * 3) + y0))
def zf_X2_bodyOf (h : zc_H) (x0 : Int32) (x1 : Int32) : Option (Int32) :=
  (zf_X2_bodyOf_L4 h x0 2000 x1 0).bind fun w9 =>
  Sum.elim (fun t10 =>
    some 0
    ) (fun t11 =>
    if t11 < 0 ∨ 21 ≤ (t11 : Int32).toNatClampNeg then none else
    some (zc_bod (t11 : Int32).toNatClampNeg)
    ) w9
abbrev zr_X2_bodyOf : Room := { frames := 1, cells := 0, slots := 0, locals := 20 }
set_option maxHeartbeats 4000000 in
set_option maxRecDepth 20000 in
theorem zt_X2_bodyOf (l : Launch) (g : zc_G) (h : zc_H) (x0 : Int32) (x1 : Int32) (res : Int32) (hf : zf_X2_bodyOf h x0 x1 = some res) : zc_M l g yX2_bodyOf cX2_bodyOf 5 (some .int) zr_X2_bodyOf h [.int (x0), .int (x1)] h (some (.int (res))) := by
  refine zc_M.of (by decide) (by simp [lg_sl, zv_cat, zv_ci, zv_cj]) ?_
  intro p e s m below meth c ls S hK hw hr hlk hnm hl
  replace S : CallFix p m c cX2_bodyOf 5 s [.int (x0), .int (x1)].toArray (zc_ws yX2_bodyOf cX2_bodyOf 5 (some .int)) RX2 := S
  have hx := S.1
  have hb := S.2.1
  replace hl : lv_has ls 5 [(0, .int (x0)), (1, .int (x1))] := by simpa [lv_args, zv_cat, zv_ci, zv_cj] using hl
  generalize s.heap = H at hw ⊢
  obtain ⟨locs, hlocs⟩ : ∃ L : List Loc, L = [] := ⟨_, rfl⟩
  rw [← hlocs] at hw ⊢
  have L4 : ∀ (h : zc_H) (y0 : Int32) (n : Nat) (y2 : Int32) (y3 : Int32) (w : (Unit) ⊕ (Int32)) (H : Heap) (locs : List Loc) (ls : Array Slot), zf_X2_bodyOf_L4 h y0 n y2 y3 = some w → zc_W g h H locs → lv_has ls 5 [(0, .int (y0)), (2, .int (y2)), (3, .int (y3))] → (∀ (t : Unit) (H : Heap) (locs : List Loc) (ls : Array Slot), w = (.inl t) → zc_W g h H locs → lv_has ls 5 [] → W p l e zr_X2_bodyOf s m [.int (x0), .int (x1)].toArray below meth c H locs 0 0 (zc_Q g below zr_X2_bodyOf (some (.int (res))) h [.int (x0), .int (x1)] s) (F0 m 66 ls [])) → (∀ (t : Int32) (H : Heap) (locs : List Loc) (ls : Array Slot), w = (.inr t) → zc_W g h H locs → lv_has ls 5 [(4, .int (t))] → W p l e zr_X2_bodyOf s m [.int (x0), .int (x1)].toArray below meth c H locs 0 0 (zc_Q g below zr_X2_bodyOf (some (.int (res))) h [.int (x0), .int (x1)] s) (F0 m 47 ls [])) → W p l e zr_X2_bodyOf s m [.int (x0), .int (x1)].toArray below meth c H locs 0 0 (zc_Q g below zr_X2_bodyOf (some (.int (res))) h [.int (x0), .int (x1)] s) (F0 m 4 ls []) := by
    intro h y0 n
    induction n with
    | zero =>
      intro y2 y3 w H locs ls hf
      cases hf
    | succ n ih =>
      intro y2 y3 w H locs ls hf hw hl  kk1 kk2
      unfold zf_X2_bodyOf_L4 at hf
      refine lv_iload_n hx hb zd_X2_bodyOf_4 rfl (lv_at hl 2 rfl) ?_
      refine lv_bipush (v := 7) hx hb zd_X2_bodyOf_5 (by decide) ?_
      refine lv_icmp_ge (tgt := 66) hx hb zd_X2_bodyOf_7 (by decide) (fun c1 => ?_) (fun c1 => ?_)
      · replace hf := zo_t c1 hf
        have hres := Option.some.inj hf; subst hres
        exact kk1 _ _ _ _ rfl hw (lv_sub hl [] rfl)
      · replace hf := zo_f c1 hf
        refine lv_iload_n hx hb zd_X2_bodyOf_10 rfl (lv_at hl 1 rfl) ?_
        replace hf := zo_b hf; obtain ⟨r2, er2, hf⟩ := hf
        refine zw_callSN (n := 1) (As := [.int (y2)]) (rest := []) S hK hw (zt_X9_isKind l g h y2 _ er2) zm_1030 zm_456 zq_X9_isKind zm_68 (by decide +kernel) ⟨Nat.le_of_ble_eq_true rfl, Nat.le_of_ble_eq_true rfl⟩ rfl hl.1 rfl (by simp [zv_cat, zv_ci, zv_cj]) zd_X2_bodyOf_11 ⟨(Nat.le_refl 0), (Nat.le_refl 0)⟩ (fun H locs hw => ?_)
        replace hw : zc_W g h H locs := hw
        refine lv_if_eq (tgt := 66) hx hb zd_X2_bodyOf_14 (by decide) (fun c3 => ?_) (fun c3 => ?_)
        · replace hf := zo_t c3 hf
          have hres := Option.some.inj hf; subst hres
          exact kk1 _ _ _ _ rfl hw (lv_sub hl [] rfl)
        · replace hf := zo_f c3 hf
          refine lv_iload_n hx hb zd_X2_bodyOf_17 rfl (lv_at hl 1 rfl) ?_
          refine lv_iconst (v := 3) hx hb zd_X2_bodyOf_18 (by decide) ?_
          refine lv_imul hx hb zd_X2_bodyOf_19 ?_
          refine lv_iload_n hx hb zd_X2_bodyOf_20 rfl (lv_at hl 0 rfl) ?_
          refine lv_iadd hx hb zd_X2_bodyOf_21 ?_
          refine lv_istore (i := 4) (lv' := [(4, .int (((y2 * 3) + y0))), (0, .int (y0)), (2, .int (y2)), (3, .int (y3))]) hx hb zd_X2_bodyOf_22 hl (by decide) rfl (fun ls hl => ?_)
          refine lv_iload hx hb zd_X2_bodyOf_24 (lv_at hl 0 rfl) ?_
          have k54h : ∀ (_ : Unit) (H : Heap) (locs : List Loc) (ls : Array Slot), (
              if y2 < 0 ∨ 7 ≤ (y2 : Int32).toNatClampNeg then none else
              zf_X2_bodyOf_L4 h y0 n (zc_abv (y2 : Int32).toNatClampNeg) (y3 + 1)
              ) = some w → zc_W g h H locs → lv_has ls 5 [(0, .int (y0)), (2, .int (y2)), (3, .int (y3))] → W p l e zr_X2_bodyOf s m [.int (x0), .int (x1)].toArray below meth c H locs (0 + 0) (0 + 0) (zc_Q g below zr_X2_bodyOf (some (.int (res))) h [.int (x0), .int (x1)] s) (F0 m 54 ls []) := by
            intro _ H locs ls hf hw hl
            refine zw_getsN S hK hw hK.2.2.1 zm_1033 zd_X2_bodyOf_54 ?_
            refine lv_iload_n hx hb zd_X2_bodyOf_57 rfl (lv_at hl 1 rfl) ?_
            replace hf := zo_n hf; obtain ⟨z5, hf⟩ := hf
            refine zw_ti S hw hK.2.2.2.1 z5 zd_X2_bodyOf_58 ?_
            refine lv_istore_n (i := 2) (lv' := [(2, .int ((zc_abv (y2 : Int32).toNatClampNeg))), (0, .int (y0)), (3, .int (y3))]) hx hb zd_X2_bodyOf_59 rfl hl (by decide) rfl (fun ls hl => ?_)
            refine lv_iinc (i := 3) (v := (y3 + 1)) (lv' := [(3, .int ((y3 + 1))), (2, .int ((zc_abv (y2 : Int32).toNatClampNeg))), (0, .int (y0))]) hx hb zd_X2_bodyOf_60 hl (k := 2) rfl (congrArg (_ + ·) (by decide)) (by decide) rfl (fun ls hl => ?_)
            refine lv_goto (tgt := 4) hx hb zd_X2_bodyOf_63 (by decide) ?_
            exact ih (zc_abv (y2 : Int32).toNatClampNeg) (y3 + 1) _ _ _ _ hf hw (lv_sub hl [2, 1, 0] rfl) kk1 kk2
          refine lv_if_lt (tgt := 54) hx hb zd_X2_bodyOf_26 (by decide) (fun c4 => ?_) (fun c4 => ?_)
          · replace hf := zo_t c4 hf
            exact k54h () _ _ _ hf hw (lv_sub hl [1, 2, 3] rfl)
          · replace hf := zo_f c4 hf
            refine lv_iload hx hb zd_X2_bodyOf_29 (lv_at hl 0 rfl) ?_
            refine zw_gets (ref := "") S hw hK.2.2.2.2.1 zm_1031 zd_X2_bodyOf_31 ?_
            refine zw_tlen S hw hK.2.2.2.2.2.1 zd_X2_bodyOf_34 ?_
            refine lv_icmp_ge (tgt := 54) hx hb zd_X2_bodyOf_35 (by decide) (fun c6 => ?_) (fun c6 => ?_)
            · replace hf := zo_t c6 hf
              exact k54h () _ _ _ hf hw (lv_sub hl [1, 2, 3] rfl)
            · replace hf := zo_f c6 hf
              refine zw_gets (ref := "") S hw hK.2.2.2.2.1 zm_1031 zd_X2_bodyOf_38 ?_
              refine lv_iload hx hb zd_X2_bodyOf_41 (lv_at hl 0 rfl) ?_
              replace hf := zo_n hf; obtain ⟨z7, hf⟩ := hf
              refine zw_ti S hw hK.2.2.2.2.2.1 z7 zd_X2_bodyOf_43 ?_
              refine lv_if_eq (tgt := 54) hx hb zd_X2_bodyOf_44 (by decide) (fun c8 => ?_) (fun c8 => ?_)
              · replace hf := zo_t c8 hf
                exact k54h () _ _ _ hf hw (lv_sub hl [1, 2, 3] rfl)
              · replace hf := zo_f c8 hf
                have hres := Option.some.inj hf; subst hres
                exact kk2 _ _ _ _ rfl hw (lv_sub hl [0] rfl)
  unfold zf_X2_bodyOf at hf
  refine lv_iload_n hx hb zd_X2_bodyOf_0 rfl (lv_at hl 1 rfl) ?_
  refine lv_istore_n (i := 2) (lv' := [(2, .int (x1)), (0, .int (x0)), (1, .int (x1))]) hx hb zd_X2_bodyOf_1 rfl hl (by decide) rfl (fun ls hl => ?_)
  refine lv_iconst (v := 0) hx hb zd_X2_bodyOf_2 (by decide) ?_
  refine lv_istore_n (i := 3) (lv' := [(3, .int (0)), (2, .int (x1)), (0, .int (x0)), (1, .int (x1))]) hx hb zd_X2_bodyOf_3 rfl hl (by decide) rfl (fun ls hl => ?_)
  replace hf := zo_b hf; obtain ⟨w9, w9e, hf⟩ := hf
  refine L4 h x0 2000 x1 0 _ _ _ _ w9e hw (lv_sub hl [2, 1, 0] rfl) ?_ ?_
  · intro t10 H locs ls exw9 hw hl
    rw [exw9] at hf
    simp only [Sum.elim_inl, Sum.elim_inr] at hf
    refine lv_iconst (v := 0) hx hb zd_X2_bodyOf_66 (by decide) ?_
    have hres := Option.some.inj hf; subst hres
    exact zw_iret (v := 0) (ty := .int) hx hb hr hlk rfl hw zd_X2_bodyOf_67 (Nat.le_refl 0) (Nat.le_refl 0)
  · intro t11 H locs ls exw9 hw hl
    rw [exw9] at hf
    simp only [Sum.elim_inl, Sum.elim_inr] at hf
    refine zw_gets (ref := "") S hw hK.2.2.2.2.1 zm_1031 zd_X2_bodyOf_47 ?_
    refine lv_iload hx hb zd_X2_bodyOf_50 (lv_at hl 0 rfl) ?_
    replace hf := zo_n hf; obtain ⟨z12, hf⟩ := hf
    refine zw_ti S hw hK.2.2.2.2.2.1 z12 zd_X2_bodyOf_52 ?_
    have hres := Option.some.inj hf; subst hres
    exact zw_iret (v := (zc_bod (t11 : Int32).toNatClampNeg)) (ty := .int) hx hb hr hlk rfl hw zd_X2_bodyOf_53 (Nat.le_refl 0) (Nat.le_refl 0)
def zf_X2_began (h : zc_H) (q : Nat) (x1 : Int32) : Option (zc_H) :=
  if ¬ zf_is h q 2 = true then none else
  (zf_gi h q 2 1).bind fun v1 =>
  let k29 := fun (h29j : zc_H) =>
    (zf_gi h29j q 2 1).bind fun v4 =>
    (zf_p h29j q 2 1 (.int ((v4 + 1)))).bind fun h6 =>
    some h6
  if v1 < 0 then
    k29 h
  else
  (zf_gi h q 2 1).bind fun v7 =>
  (zf_gr h q 2 0).bind fun v9 =>
  v9.bind fun a11 =>
  (zf_len h a11).bind fun v12 =>
  if v12 ≤ v7 then
    k29 h
  else
  (zf_gr h q 2 0).bind fun v14 =>
  (zf_gi h q 2 1).bind fun v16 =>
  v14.bind fun a18 =>
  (zf_si h a18 0 v16 x1).bind fun h19 =>
  k29 h19
abbrev zr_X2_began : Room := { frames := 0, cells := 0, slots := 0, locals := 0 }
theorem zi_X2_began {h : zc_H} {q : Nat} {x1 : Int32} {res : zc_H} (hf : zf_X2_began h q x1 = some res) : zf_is h q 2 = true := Decidable.not_not.mp (zo_n hf).1
set_option maxHeartbeats 4000000 in
set_option maxRecDepth 20000 in
theorem zt_X2_began (l : Launch) (g : zc_G) (h : zc_H) (q : Nat) (x1 : Int32) (res : zc_H) (hf : zf_X2_began h q x1 = some res) : zc_M l g yX2_began cX2_began 2 none zr_X2_began h [va_rf ((some q)), .int (x1)] res none := by
  refine zc_M.of (by decide) (by simp [lg_sl, zv_cat, zv_ci, zv_cj]) ?_
  intro p e s m below meth c ls S hK hw hr hlk hnm hl
  replace S : CallFix p m c cX2_began 2 s [va_rf ((some q)), .int (x1)].toArray (zc_ws yX2_began cX2_began 2 none) RX2 := S
  have hx := S.1
  have hb := S.2.1
  replace hl : lv_has ls 2 [(0, va_rf ((some q))), (1, .int (x1))] := by simpa [lv_args, zv_cat, zv_ci, zv_cj] using hl
  generalize s.heap = H at hw ⊢
  obtain ⟨locs, hlocs⟩ : ∃ L : List Loc, L = [] := ⟨_, rfl⟩
  rw [← hlocs] at hw ⊢
  unfold zf_X2_began at hf
  obtain ⟨-, hf⟩ := zo_n hf
  refine zl_aload_n hx hb zd_X2_began_0 rfl (lv_at hl 0 rfl) ?_
  replace hf := zo_b hf; obtain ⟨v1, ev1, hf⟩ := hf
  obtain ⟨u2, u2e, u2v⟩ := zo_b ev1
  obtain rfl := zv_i_e u2v
  refine zw_get S hK hw zk_2 (k := 1) (by decide) rfl zm_273 (Or.inl rfl) u2e zd_X2_began_1 ?_
  have k29h : ∀ (h29j : zc_H) (H : Heap) (locs : List Loc) (ls : Array Slot), (
      (zf_gi h29j q 2 1).bind fun v4 =>
      (zf_p h29j q 2 1 (.int ((v4 + 1)))).bind fun h6 =>
      some h6
      ) = some res → zc_W g h29j H locs → lv_has ls 2 [(0, va_rf ((some q)))] → W p l e zr_X2_began s m [va_rf ((some q)), .int (x1)].toArray below meth c H locs 0 0 (zc_Q g below zr_X2_began none res [va_rf ((some q)), .int (x1)] s) (F0 m 29 ls []) := by
    intro h29j H locs ls hf hw hl
    refine zl_aload_n hx hb zd_X2_began_29 rfl (lv_at hl 0 rfl) ?_
    refine lv_dup hx hb zd_X2_began_30 rfl ?_
    replace hf := zo_b hf; obtain ⟨v4, ev4, hf⟩ := hf
    obtain ⟨u5, u5e, u5v⟩ := zo_b ev4
    obtain rfl := zv_i_e u5v
    refine zw_get S hK hw zk_2 (k := 1) (by decide) rfl zm_273 (Or.inl rfl) u5e zd_X2_began_31 ?_
    refine lv_iconst (v := 1) hx hb zd_X2_began_34 (by decide) ?_
    refine lv_iadd hx hb zd_X2_began_35 ?_
    replace hf := zo_b hf; obtain ⟨h6, eh6, hf⟩ := hf
    refine zw_put S hK hw zk_2 (k := 1) (by decide) rfl zm_273 (Or.inl rfl) eh6 (ty := .int) (by decide +kernel) rfl rfl zd_X2_began_36 (fun H locs hw => ?_)
    have hres := Option.some.inj hf; subst hres
    exact zw_vret hx hb hr hlk hw zd_X2_began_39 (Nat.le_refl 0) (Nat.le_refl 0)
  refine lv_if_lt (tgt := 29) hx hb zd_X2_began_4 (by decide) (fun c3 => ?_) (fun c3 => ?_)
  · replace hf := zo_t c3 hf
    exact k29h h _ _ _ hf hw (lv_sub hl [0] rfl)
  · replace hf := zo_f c3 hf
    refine zl_aload_n hx hb zd_X2_began_7 rfl (lv_at hl 0 rfl) ?_
    replace hf := zo_b hf; obtain ⟨v7, ev7, hf⟩ := hf
    obtain ⟨u8, u8e, u8v⟩ := zo_b ev7
    obtain rfl := zv_i_e u8v
    refine zw_get S hK hw zk_2 (k := 1) (by decide) rfl zm_273 (Or.inl rfl) u8e zd_X2_began_8 ?_
    refine zl_aload_n hx hb zd_X2_began_11 rfl (lv_at hl 0 rfl) ?_
    replace hf := zo_b hf; obtain ⟨v9, ev9, hf⟩ := hf
    obtain ⟨u10, u10e, u10v⟩ := zo_b ev9
    obtain rfl := zv_r_e u10v
    refine zw_get S hK hw zk_2 (k := 0) (by decide) rfl zm_272 (Or.inl rfl) u10e zd_X2_began_12 ?_
    replace hf := zo_b hf; obtain ⟨a11, na11, hf⟩ := hf
    refine W.eq (g2 := F0 m 15 ls [va_rf ((some a11)), .int (v7)]) (by rw [na11] <;> rfl) ?_
    replace hf := zo_b hf; obtain ⟨v12, ev12, hf⟩ := hf
    refine zw_alen S hK hw ev12 zd_X2_began_15 ?_
    refine lv_icmp_ge (tgt := 29) hx hb zd_X2_began_16 (by decide) (fun c13 => ?_) (fun c13 => ?_)
    · replace hf := zo_t c13 hf
      exact k29h h _ _ _ hf hw (lv_sub hl [0] rfl)
    · replace hf := zo_f c13 hf
      refine zl_aload_n hx hb zd_X2_began_19 rfl (lv_at hl 0 rfl) ?_
      replace hf := zo_b hf; obtain ⟨v14, ev14, hf⟩ := hf
      obtain ⟨u15, u15e, u15v⟩ := zo_b ev14
      obtain rfl := zv_r_e u15v
      refine zw_get S hK hw zk_2 (k := 0) (by decide) rfl zm_272 (Or.inl rfl) u15e zd_X2_began_20 ?_
      refine zl_aload_n hx hb zd_X2_began_23 rfl (lv_at hl 0 rfl) ?_
      replace hf := zo_b hf; obtain ⟨v16, ev16, hf⟩ := hf
      obtain ⟨u17, u17e, u17v⟩ := zo_b ev16
      obtain rfl := zv_i_e u17v
      refine zw_get S hK hw zk_2 (k := 1) (by decide) rfl zm_273 (Or.inl rfl) u17e zd_X2_began_24 ?_
      refine lv_iload_n hx hb zd_X2_began_27 rfl (lv_at hl 1 rfl) ?_
      replace hf := zo_b hf; obtain ⟨a18, na18, hf⟩ := hf
      refine W.eq (g2 := F0 m 28 ls [.int (x1), .int (v16), va_rf ((some a18))]) (by rw [na18] <;> rfl) ?_
      replace hf := zo_b hf; obtain ⟨h19, eh19, hf⟩ := hf
      refine zw_iast S hK hw eh19 zd_X2_began_28 (fun H locs hw => ?_)
      exact k29h h19 _ _ _ hf hw (lv_sub hl [0] rfl)
def zf_X2_aboveOf (h : zc_H) (x0 : Int32) : Option (Int32) :=
  (zf_X9_isKind h x0).bind fun r1 =>
  if r1 = 0 then
    some (-1)
  else
  if x0 < 0 ∨ 7 ≤ (x0 : Int32).toNatClampNeg then none else
  some (zc_abv (x0 : Int32).toNatClampNeg)
abbrev zr_X2_aboveOf : Room := { frames := 1, cells := 0, slots := 0, locals := 20 }
set_option maxHeartbeats 4000000 in
set_option maxRecDepth 20000 in
theorem zt_X2_aboveOf (l : Launch) (g : zc_G) (h : zc_H) (x0 : Int32) (res : Int32) (hf : zf_X2_aboveOf h x0 = some res) : zc_M l g yX2_aboveOf cX2_aboveOf 1 (some .int) zr_X2_aboveOf h [.int (x0)] h (some (.int (res))) := by
  refine zc_M.of (by decide) (by simp [lg_sl, zv_cat, zv_ci, zv_cj]) ?_
  intro p e s m below meth c ls S hK hw hr hlk hnm hl
  replace S : CallFix p m c cX2_aboveOf 1 s [.int (x0)].toArray (zc_ws yX2_aboveOf cX2_aboveOf 1 (some .int)) RX2 := S
  have hx := S.1
  have hb := S.2.1
  replace hl : lv_has ls 1 [(0, .int (x0))] := by simpa [lv_args, zv_cat, zv_ci, zv_cj] using hl
  generalize s.heap = H at hw ⊢
  obtain ⟨locs, hlocs⟩ : ∃ L : List Loc, L = [] := ⟨_, rfl⟩
  rw [← hlocs] at hw ⊢
  unfold zf_X2_aboveOf at hf
  refine lv_iload_n hx hb zd_X2_aboveOf_0 rfl (lv_at hl 0 rfl) ?_
  replace hf := zo_b hf; obtain ⟨r1, er1, hf⟩ := hf
  refine zw_callSN (n := 1) (As := [.int (x0)]) (rest := []) S hK hw (zt_X9_isKind l g h x0 _ er1) zm_1030 zm_456 zq_X9_isKind zm_68 (by decide +kernel) ⟨Nat.le_of_ble_eq_true rfl, Nat.le_of_ble_eq_true rfl⟩ rfl hl.1 rfl (by simp [zv_cat, zv_ci, zv_cj]) zd_X2_aboveOf_1 ⟨(Nat.le_refl 0), (Nat.le_refl 0)⟩ (fun H locs hw => ?_)
  replace hw : zc_W g h H locs := hw
  refine lv_if_eq (tgt := 15) hx hb zd_X2_aboveOf_4 (by decide) (fun c2 => ?_) (fun c2 => ?_)
  · replace hf := zo_t c2 hf
    refine lv_iconst (v := (-1)) hx hb zd_X2_aboveOf_15 (by decide) ?_
    have hres := Option.some.inj hf; subst hres
    exact zw_iret (v := (-1)) (ty := .int) hx hb hr hlk rfl hw zd_X2_aboveOf_16 (Nat.le_refl 0) (Nat.le_refl 0)
  · replace hf := zo_f c2 hf
    refine zw_getsN S hK hw hK.2.2.1 zm_1033 zd_X2_aboveOf_7 ?_
    refine lv_iload_n hx hb zd_X2_aboveOf_10 rfl (lv_at hl 0 rfl) ?_
    replace hf := zo_n hf; obtain ⟨z3, hf⟩ := hf
    refine zw_ti S hw hK.2.2.2.1 z3 zd_X2_aboveOf_11 ?_
    refine lv_goto (tgt := 16) hx hb zd_X2_aboveOf_12 (by decide) ?_
    have hres := Option.some.inj hf; subst hres
    exact zw_iret (v := (zc_abv (x0 : Int32).toNatClampNeg)) (ty := .int) hx hb hr hlk rfl hw zd_X2_aboveOf_16 (Nat.le_refl 0) (Nat.le_refl 0)
def zf_X2_answerOf (f : zc_H → Nat → Int32 → Int32 → Int32 → Int32 → Option (zc_H × Int32)) (h : zc_H) (q : Nat) (x1 : Int32) (x2 : Int32) (x3 : Int32) : Option (zc_H × Int32) :=
  if ¬ zf_is h q 2 = true then none else
  (zf_X2_aboveOf h ((x1 / 10) - 1)).bind fun r2 =>
  if x1 = 10 then
    (zf_gi h q 2 3).bind fun v4 =>
    some (h, (x2 + v4))
  else
  if x1 = 11 then
    (zf_gi h q 2 2).bind fun v7 =>
    (f h q 0 v7 x2 x3).bind fun r9 =>
    some (r9.1, (r9.2 * 2))
  else
  if x1 = 12 then
    (zf_gi h q 2 2).bind fun v11 =>
    (f h q 1 v11 x2 x3).bind fun r13 =>
    (zf_gi r13.1 q 2 2).bind fun v14 =>
    (zf_gi r13.1 q 2 4).bind fun v16 =>
    (f r13.1 q 0 v14 (x2 - v16) x3).bind fun r18 =>
    some (r18.1, (r13.2 ^^^ r18.2))
  else
  if x1 = 20 then
    (f h q 0 r2 x2 x3).bind fun r20 =>
    (zf_gi r20.1 q 2 4).bind fun v21 =>
    some (r20.1, (r20.2 + v21))
  else
  if x1 = 30 then
    (f h q 1 r2 x2 x3).bind fun r24 =>
    some (r24.1, (r24.2 * 3))
  else
  if x1 = 40 then
    (f h q 0 r2 (x2 + 1) x3).bind fun r26 =>
    some (r26.1, r26.2)
  else
  if x1 = 50 then
    (f h q 2 r2 x2 x3).bind fun r28 =>
    some (r28.1, (-r28.2))
  else
  if x1 = 51 then
    (f h q 0 r2 x2 x3).bind fun r30 =>
    (zf_gi r30.1 q 2 3).bind fun v31 =>
    some (r30.1, (r30.2 - v31))
  else
  if x1 = 60 then
    (f h q 2 r2 x2 x3).bind fun r34 =>
    some (r34.1, (r34.2 ^^^ 5))
  else
  if x1 = 70 then
    (f h q 0 r2 x2 x3).bind fun r36 =>
    some (r36.1, (r36.2 * 2))
  else
  (zf_gi h q 2 4).bind fun v37 =>
  (f h q 1 r2 (x2 - v37) x3).bind fun r39 =>
  some (r39.1, r39.2)
def zr_X2_run (d : Nat) : Room := { frames := d * 2 + 2, cells := 0, slots := 0, locals := d * 49 + 44 }
def zr_X2_answerOf (d : Nat) : Room := { frames := d * 2 + 3, cells := 0, slots := 0, locals := d * 49 + 69 }
theorem zi_X2_answerOf {f : zc_H → Nat → Int32 → Int32 → Int32 → Int32 → Option (zc_H × Int32)} {h : zc_H} {q : Nat} {x1 : Int32} {x2 : Int32} {x3 : Int32} {res : zc_H × Int32} (hf : zf_X2_answerOf f h q x1 x2 x3 = some res) : zf_is h q 2 = true := Decidable.not_not.mp (zo_n hf).1
set_option maxHeartbeats 4000000 in
set_option maxRecDepth 20000 in
theorem zt_X2_answerOf (l : Launch) (g : zc_G) (f : zc_H → Nat → Int32 → Int32 → Int32 → Int32 → Option (zc_H × Int32)) (d : Nat) (ihd : ∀ (h : zc_H) (q : Nat) (x1 : Int32) (x2 : Int32) (x3 : Int32) (x4 : Int32) (res : zc_H × Int32) (hf : f h q x1 x2 x3 x4 = some res), zc_M l g yX2_run cX2_run 6 (some .int) (zr_X2_run d) h [va_rf ((some q)), .int (x1), .int (x2), .int (x3), .int (x4)] res.1 (some (.int (res.2)))) (izd : ∀ {h : zc_H} {q : Nat} {x1 : Int32} {x2 : Int32} {x3 : Int32} {x4 : Int32} {res : zc_H × Int32}, f h q x1 x2 x3 x4 = some res → zf_is h q 2 = true) (h : zc_H) (q : Nat) (x1 : Int32) (x2 : Int32) (x3 : Int32) (res : zc_H × Int32) (hf : zf_X2_answerOf f h q x1 x2 x3 = some res) : zc_M l g yX2_answerOf cX2_answerOf 5 (some .int) (zr_X2_answerOf d) h [va_rf ((some q)), .int (x1), .int (x2), .int (x3)] res.1 (some (.int (res.2))) := by
  refine zc_M.of (by decide) (by simp [lg_sl, zv_cat, zv_ci, zv_cj]) ?_
  intro p e s m below meth c ls S hK hw hr hlk hnm hl
  replace S : CallFix p m c cX2_answerOf 5 s [va_rf ((some q)), .int (x1), .int (x2), .int (x3)].toArray (zc_ws yX2_answerOf cX2_answerOf 5 (some .int)) RX2 := S
  have hx := S.1
  have hb := S.2.1
  replace hl : lv_has ls 5 [(0, va_rf ((some q))), (1, .int (x1)), (2, .int (x2)), (3, .int (x3))] := by simpa [lv_args, zv_cat, zv_ci, zv_cj] using hl
  generalize s.heap = H at hw ⊢
  obtain ⟨locs, hlocs⟩ : ∃ L : List Loc, L = [] := ⟨_, rfl⟩
  rw [← hlocs] at hw ⊢
  unfold zf_X2_answerOf at hf
  obtain ⟨-, hf⟩ := zo_n hf
  refine lv_iload_n hx hb zd_X2_answerOf_0 rfl (lv_at hl 1 rfl) ?_
  refine lv_bipush (v := 10) hx hb zd_X2_answerOf_1 (by decide) ?_
  refine lv_idiv hx hb zd_X2_answerOf_3 (by decide) ?_
  refine lv_iconst (v := 1) hx hb zd_X2_answerOf_4 (by decide) ?_
  refine lv_isub hx hb zd_X2_answerOf_5 ?_
  replace hf := zo_b hf; obtain ⟨r2, er2, hf⟩ := hf
  refine zw_callS (n := 1) (As := [.int (((x1 / 10) - 1))]) (rest := []) S hK hw (zt_X2_aboveOf l g h ((x1 / 10) - 1) _ er2) zm_1042 zm_1043 zq_X2_aboveOf zm_77 (by decide +kernel) ⟨by simp only [zr_X2_answerOf, zr_X2_aboveOf]; omega, by simp only [zr_X2_answerOf, zr_X2_aboveOf]; omega⟩ rfl hl.1 rfl (by simp [zv_cat, zv_ci, zv_cj]) zd_X2_answerOf_6 ⟨(Nat.le_refl 0), (Nat.le_refl 0)⟩ (fun H locs hw => ?_)
  replace hw : zc_W g h H locs := hw
  refine lv_istore (i := 4) (lv' := [(4, .int (r2)), (0, va_rf ((some q))), (1, .int (x1)), (2, .int (x2)), (3, .int (x3))]) hx hb zd_X2_answerOf_9 hl (by decide) rfl (fun ls hl => ?_)
  refine lv_iload_n hx hb zd_X2_answerOf_11 rfl (lv_at hl 2 rfl) ?_
  by_cases c3 : x1 = 10
  · replace hf := zo_t c3 hf
    refine W.eq (g2 := F0 m 12 ls (.int 10 :: [])) (by rw [c3] <;> rfl) ?_
    refine lv_lookup (off := 92) (tgt := 104) hx hb zd_X2_answerOf_12 (by decide) (by decide) (by decide) ?_
    refine lv_iload_n hx hb zd_X2_answerOf_104 rfl (lv_at hl 3 rfl) ?_
    refine zl_aload_n hx hb zd_X2_answerOf_105 rfl (lv_at hl 1 rfl) ?_
    replace hf := zo_b hf; obtain ⟨v4, ev4, hf⟩ := hf
    obtain ⟨u5, u5e, u5v⟩ := zo_b ev4
    obtain rfl := zv_i_e u5v
    refine zw_get S hK hw zk_2 (k := 3) (by decide) rfl zm_276 (Or.inl rfl) u5e zd_X2_answerOf_106 ?_
    refine lv_iadd hx hb zd_X2_answerOf_109 ?_
    have hres := Option.some.inj hf; subst hres
    exact zw_iret (v := (x2 + v4)) (ty := .int) hx hb hr hlk rfl hw zd_X2_answerOf_110 (Nat.le_refl 0) (Nat.le_refl 0)
  replace hf := zo_f c3 hf
  by_cases c6 : x1 = 11
  · replace hf := zo_t c6 hf
    refine W.eq (g2 := F0 m 12 ls (.int 11 :: [])) (by rw [c6] <;> rfl) ?_
    refine lv_lookup (off := 99) (tgt := 111) hx hb zd_X2_answerOf_12 (by decide) (by decide) (by decide) ?_
    refine zl_aload_n hx hb zd_X2_answerOf_111 rfl (lv_at hl 1 rfl) ?_
    refine lv_iconst (v := 0) hx hb zd_X2_answerOf_112 (by decide) ?_
    refine zl_aload_n hx hb zd_X2_answerOf_113 rfl (lv_at hl 1 rfl) ?_
    replace hf := zo_b hf; obtain ⟨v7, ev7, hf⟩ := hf
    obtain ⟨u8, u8e, u8v⟩ := zo_b ev7
    obtain rfl := zv_i_e u8v
    refine zw_get S hK hw zk_2 (k := 2) (by decide) rfl zm_275 (Or.inl rfl) u8e zd_X2_answerOf_114 ?_
    refine lv_iload_n hx hb zd_X2_answerOf_117 rfl (lv_at hl 3 rfl) ?_
    refine lv_iload_n hx hb zd_X2_answerOf_118 rfl (lv_at hl 4 rfl) ?_
    replace hf := zo_b hf; obtain ⟨r9, er9, hf⟩ := hf
    refine zw_callV (n := 4) (ci := 2) (q := zc_cl[2]) (As := [.int (0), .int (v7), .int (x2), .int (x3)]) (rest := []) S hK hw (ihd h q 0 v7 x2 x3 _ er9) zm_1023 zm_1025 zm_21 zq_X2_run zm_77 (by decide +kernel) ⟨by simp only [zr_X2_answerOf, zr_X2_run]; omega, by simp only [zr_X2_answerOf, zr_X2_run]; omega⟩ rfl rfl rfl (izd er9) hl.1 rfl (by simp [zv_cat, zv_ci, zv_cj]) zd_X2_answerOf_119 ⟨(Nat.le_refl 0), (Nat.le_refl 0)⟩ (fun H locs hw => ?_)
    replace hw : zc_W g r9.1 H locs := hw
    refine lv_iconst (v := 2) hx hb zd_X2_answerOf_122 (by decide) ?_
    refine lv_imul hx hb zd_X2_answerOf_123 ?_
    have hres := Option.some.inj hf; subst hres
    exact zw_iret (v := (r9.2 * 2)) (ty := .int) hx hb hr hlk rfl hw zd_X2_answerOf_124 (Nat.le_refl 0) (Nat.le_refl 0)
  replace hf := zo_f c6 hf
  by_cases c10 : x1 = 12
  · replace hf := zo_t c10 hf
    refine W.eq (g2 := F0 m 12 ls (.int 12 :: [])) (by rw [c10] <;> rfl) ?_
    refine lv_lookup (off := 113) (tgt := 125) hx hb zd_X2_answerOf_12 (by decide) (by decide) (by decide) ?_
    refine zl_aload_n hx hb zd_X2_answerOf_125 rfl (lv_at hl 1 rfl) ?_
    refine lv_iconst (v := 1) hx hb zd_X2_answerOf_126 (by decide) ?_
    refine zl_aload_n hx hb zd_X2_answerOf_127 rfl (lv_at hl 1 rfl) ?_
    replace hf := zo_b hf; obtain ⟨v11, ev11, hf⟩ := hf
    obtain ⟨u12, u12e, u12v⟩ := zo_b ev11
    obtain rfl := zv_i_e u12v
    refine zw_get S hK hw zk_2 (k := 2) (by decide) rfl zm_275 (Or.inl rfl) u12e zd_X2_answerOf_128 ?_
    refine lv_iload_n hx hb zd_X2_answerOf_131 rfl (lv_at hl 3 rfl) ?_
    refine lv_iload_n hx hb zd_X2_answerOf_132 rfl (lv_at hl 4 rfl) ?_
    replace hf := zo_b hf; obtain ⟨r13, er13, hf⟩ := hf
    refine zw_callV (n := 4) (ci := 2) (q := zc_cl[2]) (As := [.int (1), .int (v11), .int (x2), .int (x3)]) (rest := []) S hK hw (ihd h q 1 v11 x2 x3 _ er13) zm_1023 zm_1025 zm_21 zq_X2_run zm_77 (by decide +kernel) ⟨by simp only [zr_X2_answerOf, zr_X2_run]; omega, by simp only [zr_X2_answerOf, zr_X2_run]; omega⟩ rfl rfl rfl (izd er13) hl.1 rfl (by simp [zv_cat, zv_ci, zv_cj]) zd_X2_answerOf_133 ⟨(Nat.le_refl 0), (Nat.le_refl 0)⟩ (fun H locs hw => ?_)
    replace hw : zc_W g r13.1 H locs := hw
    refine zl_aload_n hx hb zd_X2_answerOf_136 rfl (lv_at hl 1 rfl) ?_
    refine lv_iconst (v := 0) hx hb zd_X2_answerOf_137 (by decide) ?_
    refine zl_aload_n hx hb zd_X2_answerOf_138 rfl (lv_at hl 1 rfl) ?_
    replace hf := zo_b hf; obtain ⟨v14, ev14, hf⟩ := hf
    obtain ⟨u15, u15e, u15v⟩ := zo_b ev14
    obtain rfl := zv_i_e u15v
    refine zw_get S hK hw zk_2 (k := 2) (by decide) rfl zm_275 (Or.inl rfl) u15e zd_X2_answerOf_139 ?_
    refine lv_iload_n hx hb zd_X2_answerOf_142 rfl (lv_at hl 3 rfl) ?_
    refine zl_aload_n hx hb zd_X2_answerOf_143 rfl (lv_at hl 1 rfl) ?_
    replace hf := zo_b hf; obtain ⟨v16, ev16, hf⟩ := hf
    obtain ⟨u17, u17e, u17v⟩ := zo_b ev16
    obtain rfl := zv_i_e u17v
    refine zw_get S hK hw zk_2 (k := 4) (by decide) rfl zm_277 (Or.inl rfl) u17e zd_X2_answerOf_144 ?_
    refine lv_isub hx hb zd_X2_answerOf_147 ?_
    refine lv_iload_n hx hb zd_X2_answerOf_148 rfl (lv_at hl 4 rfl) ?_
    replace hf := zo_b hf; obtain ⟨r18, er18, hf⟩ := hf
    refine zw_callV (n := 4) (ci := 2) (q := zc_cl[2]) (As := [.int (0), .int (v14), .int ((x2 - v16)), .int (x3)]) (rest := [.int (r13.2)]) S hK hw (ihd r13.1 q 0 v14 (x2 - v16) x3 _ er18) zm_1023 zm_1025 zm_21 zq_X2_run zm_77 (by decide +kernel) ⟨by simp only [zr_X2_answerOf, zr_X2_run]; omega, by simp only [zr_X2_answerOf, zr_X2_run]; omega⟩ rfl rfl rfl (izd er18) hl.1 rfl (by simp [zv_cat, zv_ci, zv_cj]) zd_X2_answerOf_149 ⟨(Nat.le_refl 0), (Nat.le_refl 0)⟩ (fun H locs hw => ?_)
    replace hw : zc_W g r18.1 H locs := hw
    refine lv_ixor hx hb zd_X2_answerOf_152 ?_
    have hres := Option.some.inj hf; subst hres
    exact zw_iret (v := (r13.2 ^^^ r18.2)) (ty := .int) hx hb hr hlk rfl hw zd_X2_answerOf_153 (Nat.le_refl 0) (Nat.le_refl 0)
  replace hf := zo_f c10 hf
  by_cases c19 : x1 = 20
  · replace hf := zo_t c19 hf
    refine W.eq (g2 := F0 m 12 ls (.int 20 :: [])) (by rw [c19] <;> rfl) ?_
    refine lv_lookup (off := 142) (tgt := 154) hx hb zd_X2_answerOf_12 (by decide) (by decide) (by decide) ?_
    refine zl_aload_n hx hb zd_X2_answerOf_154 rfl (lv_at hl 1 rfl) ?_
    refine lv_iconst (v := 0) hx hb zd_X2_answerOf_155 (by decide) ?_
    refine lv_iload hx hb zd_X2_answerOf_156 (lv_at hl 0 rfl) ?_
    refine lv_iload_n hx hb zd_X2_answerOf_158 rfl (lv_at hl 3 rfl) ?_
    refine lv_iload_n hx hb zd_X2_answerOf_159 rfl (lv_at hl 4 rfl) ?_
    replace hf := zo_b hf; obtain ⟨r20, er20, hf⟩ := hf
    refine zw_callV (n := 4) (ci := 2) (q := zc_cl[2]) (As := [.int (0), .int (r2), .int (x2), .int (x3)]) (rest := []) S hK hw (ihd h q 0 r2 x2 x3 _ er20) zm_1023 zm_1025 zm_21 zq_X2_run zm_77 (by decide +kernel) ⟨by simp only [zr_X2_answerOf, zr_X2_run]; omega, by simp only [zr_X2_answerOf, zr_X2_run]; omega⟩ rfl rfl rfl (izd er20) hl.1 rfl (by simp [zv_cat, zv_ci, zv_cj]) zd_X2_answerOf_160 ⟨(Nat.le_refl 0), (Nat.le_refl 0)⟩ (fun H locs hw => ?_)
    replace hw : zc_W g r20.1 H locs := hw
    refine zl_aload_n hx hb zd_X2_answerOf_163 rfl (lv_at hl 1 rfl) ?_
    replace hf := zo_b hf; obtain ⟨v21, ev21, hf⟩ := hf
    obtain ⟨u22, u22e, u22v⟩ := zo_b ev21
    obtain rfl := zv_i_e u22v
    refine zw_get S hK hw zk_2 (k := 4) (by decide) rfl zm_277 (Or.inl rfl) u22e zd_X2_answerOf_164 ?_
    refine lv_iadd hx hb zd_X2_answerOf_167 ?_
    have hres := Option.some.inj hf; subst hres
    exact zw_iret (v := (r20.2 + v21)) (ty := .int) hx hb hr hlk rfl hw zd_X2_answerOf_168 (Nat.le_refl 0) (Nat.le_refl 0)
  replace hf := zo_f c19 hf
  by_cases c23 : x1 = 30
  · replace hf := zo_t c23 hf
    refine W.eq (g2 := F0 m 12 ls (.int 30 :: [])) (by rw [c23] <;> rfl) ?_
    refine lv_lookup (off := 157) (tgt := 169) hx hb zd_X2_answerOf_12 (by decide) (by decide) (by decide) ?_
    refine zl_aload_n hx hb zd_X2_answerOf_169 rfl (lv_at hl 1 rfl) ?_
    refine lv_iconst (v := 1) hx hb zd_X2_answerOf_170 (by decide) ?_
    refine lv_iload hx hb zd_X2_answerOf_171 (lv_at hl 0 rfl) ?_
    refine lv_iload_n hx hb zd_X2_answerOf_173 rfl (lv_at hl 3 rfl) ?_
    refine lv_iload_n hx hb zd_X2_answerOf_174 rfl (lv_at hl 4 rfl) ?_
    replace hf := zo_b hf; obtain ⟨r24, er24, hf⟩ := hf
    refine zw_callV (n := 4) (ci := 2) (q := zc_cl[2]) (As := [.int (1), .int (r2), .int (x2), .int (x3)]) (rest := []) S hK hw (ihd h q 1 r2 x2 x3 _ er24) zm_1023 zm_1025 zm_21 zq_X2_run zm_77 (by decide +kernel) ⟨by simp only [zr_X2_answerOf, zr_X2_run]; omega, by simp only [zr_X2_answerOf, zr_X2_run]; omega⟩ rfl rfl rfl (izd er24) hl.1 rfl (by simp [zv_cat, zv_ci, zv_cj]) zd_X2_answerOf_175 ⟨(Nat.le_refl 0), (Nat.le_refl 0)⟩ (fun H locs hw => ?_)
    replace hw : zc_W g r24.1 H locs := hw
    refine lv_iconst (v := 3) hx hb zd_X2_answerOf_178 (by decide) ?_
    refine lv_imul hx hb zd_X2_answerOf_179 ?_
    have hres := Option.some.inj hf; subst hres
    exact zw_iret (v := (r24.2 * 3)) (ty := .int) hx hb hr hlk rfl hw zd_X2_answerOf_180 (Nat.le_refl 0) (Nat.le_refl 0)
  replace hf := zo_f c23 hf
  by_cases c25 : x1 = 40
  · replace hf := zo_t c25 hf
    refine W.eq (g2 := F0 m 12 ls (.int 40 :: [])) (by rw [c25] <;> rfl) ?_
    refine lv_lookup (off := 169) (tgt := 181) hx hb zd_X2_answerOf_12 (by decide) (by decide) (by decide) ?_
    refine zl_aload_n hx hb zd_X2_answerOf_181 rfl (lv_at hl 1 rfl) ?_
    refine lv_iconst (v := 0) hx hb zd_X2_answerOf_182 (by decide) ?_
    refine lv_iload hx hb zd_X2_answerOf_183 (lv_at hl 0 rfl) ?_
    refine lv_iload_n hx hb zd_X2_answerOf_185 rfl (lv_at hl 3 rfl) ?_
    refine lv_iconst (v := 1) hx hb zd_X2_answerOf_186 (by decide) ?_
    refine lv_iadd hx hb zd_X2_answerOf_187 ?_
    refine lv_iload_n hx hb zd_X2_answerOf_188 rfl (lv_at hl 4 rfl) ?_
    replace hf := zo_b hf; obtain ⟨r26, er26, hf⟩ := hf
    refine zw_callV (n := 4) (ci := 2) (q := zc_cl[2]) (As := [.int (0), .int (r2), .int ((x2 + 1)), .int (x3)]) (rest := []) S hK hw (ihd h q 0 r2 (x2 + 1) x3 _ er26) zm_1023 zm_1025 zm_21 zq_X2_run zm_77 (by decide +kernel) ⟨by simp only [zr_X2_answerOf, zr_X2_run]; omega, by simp only [zr_X2_answerOf, zr_X2_run]; omega⟩ rfl rfl rfl (izd er26) hl.1 rfl (by simp [zv_cat, zv_ci, zv_cj]) zd_X2_answerOf_189 ⟨(Nat.le_refl 0), (Nat.le_refl 0)⟩ (fun H locs hw => ?_)
    replace hw : zc_W g r26.1 H locs := hw
    have hres := Option.some.inj hf; subst hres
    exact zw_iret (v := r26.2) (ty := .int) hx hb hr hlk rfl hw zd_X2_answerOf_192 (Nat.le_refl 0) (Nat.le_refl 0)
  replace hf := zo_f c25 hf
  by_cases c27 : x1 = 50
  · replace hf := zo_t c27 hf
    refine W.eq (g2 := F0 m 12 ls (.int 50 :: [])) (by rw [c27] <;> rfl) ?_
    refine lv_lookup (off := 181) (tgt := 193) hx hb zd_X2_answerOf_12 (by decide) (by decide) (by decide) ?_
    refine zl_aload_n hx hb zd_X2_answerOf_193 rfl (lv_at hl 1 rfl) ?_
    refine lv_iconst (v := 2) hx hb zd_X2_answerOf_194 (by decide) ?_
    refine lv_iload hx hb zd_X2_answerOf_195 (lv_at hl 0 rfl) ?_
    refine lv_iload_n hx hb zd_X2_answerOf_197 rfl (lv_at hl 3 rfl) ?_
    refine lv_iload_n hx hb zd_X2_answerOf_198 rfl (lv_at hl 4 rfl) ?_
    replace hf := zo_b hf; obtain ⟨r28, er28, hf⟩ := hf
    refine zw_callV (n := 4) (ci := 2) (q := zc_cl[2]) (As := [.int (2), .int (r2), .int (x2), .int (x3)]) (rest := []) S hK hw (ihd h q 2 r2 x2 x3 _ er28) zm_1023 zm_1025 zm_21 zq_X2_run zm_77 (by decide +kernel) ⟨by simp only [zr_X2_answerOf, zr_X2_run]; omega, by simp only [zr_X2_answerOf, zr_X2_run]; omega⟩ rfl rfl rfl (izd er28) hl.1 rfl (by simp [zv_cat, zv_ci, zv_cj]) zd_X2_answerOf_199 ⟨(Nat.le_refl 0), (Nat.le_refl 0)⟩ (fun H locs hw => ?_)
    replace hw : zc_W g r28.1 H locs := hw
    refine lv_ineg hx hb zd_X2_answerOf_202 ?_
    have hres := Option.some.inj hf; subst hres
    exact zw_iret (v := (-r28.2)) (ty := .int) hx hb hr hlk rfl hw zd_X2_answerOf_203 (Nat.le_refl 0) (Nat.le_refl 0)
  replace hf := zo_f c27 hf
  by_cases c29 : x1 = 51
  · replace hf := zo_t c29 hf
    refine W.eq (g2 := F0 m 12 ls (.int 51 :: [])) (by rw [c29] <;> rfl) ?_
    refine lv_lookup (off := 192) (tgt := 204) hx hb zd_X2_answerOf_12 (by decide) (by decide) (by decide) ?_
    refine zl_aload_n hx hb zd_X2_answerOf_204 rfl (lv_at hl 1 rfl) ?_
    refine lv_iconst (v := 0) hx hb zd_X2_answerOf_205 (by decide) ?_
    refine lv_iload hx hb zd_X2_answerOf_206 (lv_at hl 0 rfl) ?_
    refine lv_iload_n hx hb zd_X2_answerOf_208 rfl (lv_at hl 3 rfl) ?_
    refine lv_iload_n hx hb zd_X2_answerOf_209 rfl (lv_at hl 4 rfl) ?_
    replace hf := zo_b hf; obtain ⟨r30, er30, hf⟩ := hf
    refine zw_callV (n := 4) (ci := 2) (q := zc_cl[2]) (As := [.int (0), .int (r2), .int (x2), .int (x3)]) (rest := []) S hK hw (ihd h q 0 r2 x2 x3 _ er30) zm_1023 zm_1025 zm_21 zq_X2_run zm_77 (by decide +kernel) ⟨by simp only [zr_X2_answerOf, zr_X2_run]; omega, by simp only [zr_X2_answerOf, zr_X2_run]; omega⟩ rfl rfl rfl (izd er30) hl.1 rfl (by simp [zv_cat, zv_ci, zv_cj]) zd_X2_answerOf_210 ⟨(Nat.le_refl 0), (Nat.le_refl 0)⟩ (fun H locs hw => ?_)
    replace hw : zc_W g r30.1 H locs := hw
    refine zl_aload_n hx hb zd_X2_answerOf_213 rfl (lv_at hl 1 rfl) ?_
    replace hf := zo_b hf; obtain ⟨v31, ev31, hf⟩ := hf
    obtain ⟨u32, u32e, u32v⟩ := zo_b ev31
    obtain rfl := zv_i_e u32v
    refine zw_get S hK hw zk_2 (k := 3) (by decide) rfl zm_276 (Or.inl rfl) u32e zd_X2_answerOf_214 ?_
    refine lv_isub hx hb zd_X2_answerOf_217 ?_
    have hres := Option.some.inj hf; subst hres
    exact zw_iret (v := (r30.2 - v31)) (ty := .int) hx hb hr hlk rfl hw zd_X2_answerOf_218 (Nat.le_refl 0) (Nat.le_refl 0)
  replace hf := zo_f c29 hf
  by_cases c33 : x1 = 60
  · replace hf := zo_t c33 hf
    refine W.eq (g2 := F0 m 12 ls (.int 60 :: [])) (by rw [c33] <;> rfl) ?_
    refine lv_lookup (off := 207) (tgt := 219) hx hb zd_X2_answerOf_12 (by decide) (by decide) (by decide) ?_
    refine zl_aload_n hx hb zd_X2_answerOf_219 rfl (lv_at hl 1 rfl) ?_
    refine lv_iconst (v := 2) hx hb zd_X2_answerOf_220 (by decide) ?_
    refine lv_iload hx hb zd_X2_answerOf_221 (lv_at hl 0 rfl) ?_
    refine lv_iload_n hx hb zd_X2_answerOf_223 rfl (lv_at hl 3 rfl) ?_
    refine lv_iload_n hx hb zd_X2_answerOf_224 rfl (lv_at hl 4 rfl) ?_
    replace hf := zo_b hf; obtain ⟨r34, er34, hf⟩ := hf
    refine zw_callV (n := 4) (ci := 2) (q := zc_cl[2]) (As := [.int (2), .int (r2), .int (x2), .int (x3)]) (rest := []) S hK hw (ihd h q 2 r2 x2 x3 _ er34) zm_1023 zm_1025 zm_21 zq_X2_run zm_77 (by decide +kernel) ⟨by simp only [zr_X2_answerOf, zr_X2_run]; omega, by simp only [zr_X2_answerOf, zr_X2_run]; omega⟩ rfl rfl rfl (izd er34) hl.1 rfl (by simp [zv_cat, zv_ci, zv_cj]) zd_X2_answerOf_225 ⟨(Nat.le_refl 0), (Nat.le_refl 0)⟩ (fun H locs hw => ?_)
    replace hw : zc_W g r34.1 H locs := hw
    refine lv_iconst (v := 5) hx hb zd_X2_answerOf_228 (by decide) ?_
    refine lv_ixor hx hb zd_X2_answerOf_229 ?_
    have hres := Option.some.inj hf; subst hres
    exact zw_iret (v := (r34.2 ^^^ 5)) (ty := .int) hx hb hr hlk rfl hw zd_X2_answerOf_230 (Nat.le_refl 0) (Nat.le_refl 0)
  replace hf := zo_f c33 hf
  by_cases c35 : x1 = 70
  · replace hf := zo_t c35 hf
    refine W.eq (g2 := F0 m 12 ls (.int 70 :: [])) (by rw [c35] <;> rfl) ?_
    refine lv_lookup (off := 219) (tgt := 231) hx hb zd_X2_answerOf_12 (by decide) (by decide) (by decide) ?_
    refine zl_aload_n hx hb zd_X2_answerOf_231 rfl (lv_at hl 1 rfl) ?_
    refine lv_iconst (v := 0) hx hb zd_X2_answerOf_232 (by decide) ?_
    refine lv_iload hx hb zd_X2_answerOf_233 (lv_at hl 0 rfl) ?_
    refine lv_iload_n hx hb zd_X2_answerOf_235 rfl (lv_at hl 3 rfl) ?_
    refine lv_iload_n hx hb zd_X2_answerOf_236 rfl (lv_at hl 4 rfl) ?_
    replace hf := zo_b hf; obtain ⟨r36, er36, hf⟩ := hf
    refine zw_callV (n := 4) (ci := 2) (q := zc_cl[2]) (As := [.int (0), .int (r2), .int (x2), .int (x3)]) (rest := []) S hK hw (ihd h q 0 r2 x2 x3 _ er36) zm_1023 zm_1025 zm_21 zq_X2_run zm_77 (by decide +kernel) ⟨by simp only [zr_X2_answerOf, zr_X2_run]; omega, by simp only [zr_X2_answerOf, zr_X2_run]; omega⟩ rfl rfl rfl (izd er36) hl.1 rfl (by simp [zv_cat, zv_ci, zv_cj]) zd_X2_answerOf_237 ⟨(Nat.le_refl 0), (Nat.le_refl 0)⟩ (fun H locs hw => ?_)
    replace hw : zc_W g r36.1 H locs := hw
    refine lv_iconst (v := 2) hx hb zd_X2_answerOf_240 (by decide) ?_
    refine lv_imul hx hb zd_X2_answerOf_241 ?_
    have hres := Option.some.inj hf; subst hres
    exact zw_iret (v := (r36.2 * 2)) (ty := .int) hx hb hr hlk rfl hw zd_X2_answerOf_242 (Nat.le_refl 0) (Nat.le_refl 0)
  replace hf := zo_f c35 hf
  have zc3 : (x1 : Int32).toInt ≠ 10 := fun h => c3 (Int32.toInt_inj.mp (h.trans (by decide)))
  have zc6 : (x1 : Int32).toInt ≠ 11 := fun h => c6 (Int32.toInt_inj.mp (h.trans (by decide)))
  have zc10 : (x1 : Int32).toInt ≠ 12 := fun h => c10 (Int32.toInt_inj.mp (h.trans (by decide)))
  have zc19 : (x1 : Int32).toInt ≠ 20 := fun h => c19 (Int32.toInt_inj.mp (h.trans (by decide)))
  have zc23 : (x1 : Int32).toInt ≠ 30 := fun h => c23 (Int32.toInt_inj.mp (h.trans (by decide)))
  have zc25 : (x1 : Int32).toInt ≠ 40 := fun h => c25 (Int32.toInt_inj.mp (h.trans (by decide)))
  have zc27 : (x1 : Int32).toInt ≠ 50 := fun h => c27 (Int32.toInt_inj.mp (h.trans (by decide)))
  have zc29 : (x1 : Int32).toInt ≠ 51 := fun h => c29 (Int32.toInt_inj.mp (h.trans (by decide)))
  have zc33 : (x1 : Int32).toInt ≠ 60 := fun h => c33 (Int32.toInt_inj.mp (h.trans (by decide)))
  have zc35 : (x1 : Int32).toInt ≠ 70 := fun h => c35 (Int32.toInt_inj.mp (h.trans (by decide)))
  refine lv_lookup (off := 231) (tgt := 243) hx hb zd_X2_answerOf_12 (by decide) (by simp [Op.lookupswitch.offset, Ne.symm zc3, Ne.symm zc6, Ne.symm zc10, Ne.symm zc19, Ne.symm zc23, Ne.symm zc25, Ne.symm zc27, Ne.symm zc29, Ne.symm zc33, Ne.symm zc35]) (by decide) ?_
  refine zl_aload_n hx hb zd_X2_answerOf_243 rfl (lv_at hl 1 rfl) ?_
  refine lv_iconst (v := 1) hx hb zd_X2_answerOf_244 (by decide) ?_
  refine lv_iload hx hb zd_X2_answerOf_245 (lv_at hl 0 rfl) ?_
  refine lv_iload_n hx hb zd_X2_answerOf_247 rfl (lv_at hl 3 rfl) ?_
  refine zl_aload_n hx hb zd_X2_answerOf_248 rfl (lv_at hl 1 rfl) ?_
  replace hf := zo_b hf; obtain ⟨v37, ev37, hf⟩ := hf
  obtain ⟨u38, u38e, u38v⟩ := zo_b ev37
  obtain rfl := zv_i_e u38v
  refine zw_get S hK hw zk_2 (k := 4) (by decide) rfl zm_277 (Or.inl rfl) u38e zd_X2_answerOf_249 ?_
  refine lv_isub hx hb zd_X2_answerOf_252 ?_
  refine lv_iload_n hx hb zd_X2_answerOf_253 rfl (lv_at hl 4 rfl) ?_
  replace hf := zo_b hf; obtain ⟨r39, er39, hf⟩ := hf
  refine zw_callV (n := 4) (ci := 2) (q := zc_cl[2]) (As := [.int (1), .int (r2), .int ((x2 - v37)), .int (x3)]) (rest := []) S hK hw (ihd h q 1 r2 (x2 - v37) x3 _ er39) zm_1023 zm_1025 zm_21 zq_X2_run zm_77 (by decide +kernel) ⟨by simp only [zr_X2_answerOf, zr_X2_run]; omega, by simp only [zr_X2_answerOf, zr_X2_run]; omega⟩ rfl rfl rfl (izd er39) hl.1 rfl (by simp [zv_cat, zv_ci, zv_cj]) zd_X2_answerOf_254 ⟨(Nat.le_refl 0), (Nat.le_refl 0)⟩ (fun H locs hw => ?_)
  replace hw : zc_W g r39.1 H locs := hw
  have hres := Option.some.inj hf; subst hres
  exact zw_iret (v := r39.2) (ty := .int) hx hb hr hlk rfl hw zd_X2_answerOf_257 (Nat.le_refl 0) (Nat.le_refl 0)
def zf_X2_run : Nat → zc_H → Nat → Int32 → Int32 → Int32 → Int32 → Option (zc_H × Int32)
  | 0, _, _, _, _, _, _ => none
  | d + 1, h, q, x1, x2, x3, x4 =>
    if ¬ zf_is h q 2 = true then none else
    (zf_X2_bodyOf h x1 x2).bind fun r1 =>
    if r1 = 0 then
      some (h, 0)
    else
    if x4 ≤ 40 then
      (zf_X2_began h q r1).bind fun r4 =>
      (zf_X2_answerOf (zf_X2_run d) r4 q r1 x3 (x4 + 1)).bind fun r5 =>
      some (r5.1, r5.2)
    else
    some (h, 0)
theorem zi_X2_run {d : Nat} {h : zc_H} {q : Nat} {x1 : Int32} {x2 : Int32} {x3 : Int32} {x4 : Int32} {res : zc_H × Int32} (hf : zf_X2_run d h q x1 x2 x3 x4 = some res) : zf_is h q 2 = true := by
  cases d with
  | zero => cases hf
  | succ d => exact Decidable.not_not.mp (zo_n hf).1
set_option maxHeartbeats 4000000 in
set_option maxRecDepth 20000 in
theorem zt_X2_run (l : Launch) (g : zc_G) : ∀ (d : Nat) (h : zc_H) (q : Nat) (x1 : Int32) (x2 : Int32) (x3 : Int32) (x4 : Int32) (res : zc_H × Int32) (hf : zf_X2_run d h q x1 x2 x3 x4 = some res), zc_M l g yX2_run cX2_run 6 (some .int) (zr_X2_run d) h [va_rf ((some q)), .int (x1), .int (x2), .int (x3), .int (x4)] res.1 (some (.int (res.2))) := by
  intro d
  induction d with
  | zero => intro h q x1 x2 x3 x4 res hf; cases hf
  | succ d ihd =>
  intro h q x1 x2 x3 x4 res hf
  refine zc_M.of (by decide) (by simp [lg_sl, zv_cat, zv_ci, zv_cj]) ?_
  intro p e s m below meth c ls S hK hw hr hlk hnm hl
  replace S : CallFix p m c cX2_run 6 s [va_rf ((some q)), .int (x1), .int (x2), .int (x3), .int (x4)].toArray (zc_ws yX2_run cX2_run 6 (some .int)) RX2 := S
  have hx := S.1
  have hb := S.2.1
  replace hl : lv_has ls 6 [(0, va_rf ((some q))), (1, .int (x1)), (2, .int (x2)), (3, .int (x3)), (4, .int (x4))] := by simpa [lv_args, zv_cat, zv_ci, zv_cj] using hl
  generalize s.heap = H at hw ⊢
  obtain ⟨locs, hlocs⟩ : ∃ L : List Loc, L = [] := ⟨_, rfl⟩
  rw [← hlocs] at hw ⊢
  unfold zf_X2_run at hf
  obtain ⟨-, hf⟩ := zo_n hf
  refine lv_iload_n hx hb zd_X2_run_0 rfl (lv_at hl 1 rfl) ?_
  refine lv_iload_n hx hb zd_X2_run_1 rfl (lv_at hl 2 rfl) ?_
  replace hf := zo_b hf; obtain ⟨r1, er1, hf⟩ := hf
  refine zw_callS (n := 2) (As := [.int (x1), .int (x2)]) (rest := []) S hK hw (zt_X2_bodyOf l g h x1 x2 _ er1) zm_1027 zm_1028 zq_X2_bodyOf zm_77 (by decide +kernel) ⟨by simp only [zr_X2_run, zr_X2_bodyOf]; omega, by simp only [zr_X2_run, zr_X2_bodyOf]; omega⟩ rfl hl.1 rfl (by simp [zv_cat, zv_ci, zv_cj]) zd_X2_run_2 ⟨(Nat.le_refl 0), (Nat.le_refl 0)⟩ (fun H locs hw => ?_)
  replace hw : zc_W g h H locs := hw
  refine lv_istore (i := 5) (lv' := [(5, .int (r1)), (0, va_rf ((some q))), (1, .int (x1)), (2, .int (x2)), (3, .int (x3)), (4, .int (x4))]) hx hb zd_X2_run_5 hl (by decide) rfl (fun ls hl => ?_)
  refine lv_iload hx hb zd_X2_run_7 (lv_at hl 0 rfl) ?_
  refine lv_if_eq (tgt := 19) hx hb zd_X2_run_9 (by decide) (fun c2 => ?_) (fun c2 => ?_)
  · replace hf := zo_t c2 hf
    refine lv_iconst (v := 0) hx hb zd_X2_run_19 (by decide) ?_
    have hres := Option.some.inj hf; subst hres
    exact zw_iret (v := 0) (ty := .int) hx hb hr hlk rfl hw zd_X2_run_20 (Nat.le_refl 0) (Nat.le_refl 0)
  · replace hf := zo_f c2 hf
    refine lv_iload hx hb zd_X2_run_12 (lv_at hl 5 rfl) ?_
    refine lv_bipush (v := 40) hx hb zd_X2_run_14 (by decide) ?_
    refine lv_icmp_le (tgt := 21) hx hb zd_X2_run_16 (by decide) (fun c3 => ?_) (fun c3 => ?_)
    · replace hf := zo_t c3 hf
      refine zl_aload_n hx hb zd_X2_run_21 rfl (lv_at hl 1 rfl) ?_
      refine lv_iload hx hb zd_X2_run_22 (lv_at hl 0 rfl) ?_
      replace hf := zo_b hf; obtain ⟨r4, er4, hf⟩ := hf
      refine zw_callV (n := 1) (ci := 2) (q := zc_cl[2]) (As := [.int (r1)]) (rest := []) S hK hw (zt_X2_began l g h q r1 _ er4) zm_1034 zm_1036 zm_22 zq_X2_began zm_77 (by decide +kernel) ⟨by simp only [zr_X2_run, zr_X2_began]; omega, by simp only [zr_X2_run, zr_X2_began]; omega⟩ rfl rfl rfl (zi_X2_began er4) hl.1 rfl (by simp [zv_cat, zv_ci, zv_cj]) zd_X2_run_24 ⟨(Nat.le_refl 0), (Nat.le_refl 0)⟩ (fun H locs hw => ?_)
      replace hw : zc_W g r4 H locs := hw
      refine zl_aload_n hx hb zd_X2_run_27 rfl (lv_at hl 1 rfl) ?_
      refine lv_iload hx hb zd_X2_run_28 (lv_at hl 0 rfl) ?_
      refine lv_iload_n hx hb zd_X2_run_30 rfl (lv_at hl 4 rfl) ?_
      refine lv_iload hx hb zd_X2_run_31 (lv_at hl 5 rfl) ?_
      refine lv_iconst (v := 1) hx hb zd_X2_run_33 (by decide) ?_
      refine lv_iadd hx hb zd_X2_run_34 ?_
      replace hf := zo_b hf; obtain ⟨r5, er5, hf⟩ := hf
      refine zw_callV (n := 3) (ci := 2) (q := zc_cl[2]) (As := [.int (r1), .int (x3), .int ((x4 + 1))]) (rest := []) S hK hw (zt_X2_answerOf l g (zf_X2_run d) d ihd (fun z => zi_X2_run z) r4 q r1 x3 (x4 + 1) _ er5) zm_1038 zm_1040 zm_23 zq_X2_answerOf zm_77 (by decide +kernel) ⟨by simp only [zr_X2_run, zr_X2_answerOf]; omega, by simp only [zr_X2_run, zr_X2_answerOf]; omega⟩ rfl rfl rfl (zi_X2_answerOf er5) hl.1 rfl (by simp [zv_cat, zv_ci, zv_cj]) zd_X2_run_35 ⟨(Nat.le_refl 0), (Nat.le_refl 0)⟩ (fun H locs hw => ?_)
      replace hw : zc_W g r5.1 H locs := hw
      have hres := Option.some.inj hf; subst hres
      exact zw_iret (v := r5.2) (ty := .int) hx hb hr hlk rfl hw zd_X2_run_38 (Nat.le_refl 0) (Nat.le_refl 0)
    · replace hf := zo_f c3 hf
      refine lv_iconst (v := 0) hx hb zd_X2_run_19 (by decide) ?_
      have hres := Option.some.inj hf; subst hres
      exact zw_iret (v := 0) (ty := .int) hx hb hr hlk rfl hw zd_X2_run_20 (Nat.le_refl 0) (Nat.le_refl 0)
def zf_X2_perform (h : zc_H) (q : Nat) (x1 : Option Nat) (x2 : Int32) (x3 : Int32) : Option (zc_H × Int32) :=
  if ¬ zf_is h q 2 = true then none else
  x1.bind fun a1 =>
  (zf_gi h a1 3 1).bind fun v2 =>
  (zf_p h q 2 2 (.int (v2))).bind fun h4 =>
  (zf_gi h4 a1 3 0).bind fun v5 =>
  (zf_p h4 q 2 3 (.int (v5))).bind fun h7 =>
  (zf_gi h7 a1 3 2).bind fun v8 =>
  (zf_p h7 q 2 4 (.int (v8))).bind fun h10 =>
  (zf_gi h10 q 2 2).bind fun v11 =>
  (zf_X2_run 20 h10 q x2 v11 x3 0).bind fun r13 =>
  some (r13.1, r13.2)
abbrev zr_X2_perform : Room := { frames := 43, cells := 0, slots := 0, locals := 1049 }
theorem zi_X2_perform {h : zc_H} {q : Nat} {x1 : Option Nat} {x2 : Int32} {x3 : Int32} {res : zc_H × Int32} (hf : zf_X2_perform h q x1 x2 x3 = some res) : zf_is h q 2 = true := Decidable.not_not.mp (zo_n hf).1
set_option maxHeartbeats 4000000 in
set_option maxRecDepth 20000 in
theorem zt_X2_perform (l : Launch) (g : zc_G) (h : zc_H) (q : Nat) (x1 : Option Nat) (x2 : Int32) (x3 : Int32) (res : zc_H × Int32) (hf : zf_X2_perform h q x1 x2 x3 = some res) : zc_M l g yX2_perform cX2_perform 4 (some .int) zr_X2_perform h [va_rf ((some q)), va_rf (x1), .int (x2), .int (x3)] res.1 (some (.int (res.2))) := by
  refine zc_M.of (by decide) (by simp [lg_sl, zv_cat, zv_ci, zv_cj]) ?_
  intro p e s m below meth c ls S hK hw hr hlk hnm hl
  replace S : CallFix p m c cX2_perform 4 s [va_rf ((some q)), va_rf (x1), .int (x2), .int (x3)].toArray (zc_ws yX2_perform cX2_perform 4 (some .int)) RX2 := S
  have hx := S.1
  have hb := S.2.1
  replace hl : lv_has ls 4 [(0, va_rf ((some q))), (1, va_rf (x1)), (2, .int (x2)), (3, .int (x3))] := by simpa [lv_args, zv_cat, zv_ci, zv_cj] using hl
  generalize s.heap = H at hw ⊢
  obtain ⟨locs, hlocs⟩ : ∃ L : List Loc, L = [] := ⟨_, rfl⟩
  rw [← hlocs] at hw ⊢
  unfold zf_X2_perform at hf
  obtain ⟨-, hf⟩ := zo_n hf
  refine zl_aload_n hx hb zd_X2_perform_0 rfl (lv_at hl 0 rfl) ?_
  refine zl_aload_n hx hb zd_X2_perform_1 rfl (lv_at hl 1 rfl) ?_
  replace hf := zo_b hf; obtain ⟨a1, na1, hf⟩ := hf
  refine W.eq (g2 := F0 m 2 ls [va_rf ((some a1)), va_rf ((some q))]) (by rw [na1] <;> rfl) ?_
  replace hf := zo_b hf; obtain ⟨v2, ev2, hf⟩ := hf
  obtain ⟨u3, u3e, u3v⟩ := zo_b ev2
  obtain rfl := zv_i_e u3v
  refine zw_get S hK hw zk_3 (k := 1) (by decide) rfl zm_759 (Or.inl rfl) u3e zd_X2_perform_2 ?_
  replace hf := zo_b hf; obtain ⟨h4, eh4, hf⟩ := hf
  refine zw_put S hK hw zk_2 (k := 2) (by decide) rfl zm_275 (Or.inl rfl) eh4 (ty := .int) (by decide +kernel) rfl rfl zd_X2_perform_5 (fun H locs hw => ?_)
  refine zl_aload_n hx hb zd_X2_perform_8 rfl (lv_at hl 0 rfl) ?_
  refine zl_aload_n hx hb zd_X2_perform_9 rfl (lv_at hl 1 rfl) ?_
  refine W.eq (g2 := F0 m 10 ls [va_rf ((some a1)), va_rf ((some q))]) (by rw [na1] <;> rfl) ?_
  replace hf := zo_b hf; obtain ⟨v5, ev5, hf⟩ := hf
  obtain ⟨u6, u6e, u6v⟩ := zo_b ev5
  obtain rfl := zv_i_e u6v
  refine zw_get S hK hw zk_3 (k := 0) (by decide) rfl zm_756 (Or.inl rfl) u6e zd_X2_perform_10 ?_
  replace hf := zo_b hf; obtain ⟨h7, eh7, hf⟩ := hf
  refine zw_put S hK hw zk_2 (k := 3) (by decide) rfl zm_276 (Or.inl rfl) eh7 (ty := .int) (by decide +kernel) rfl rfl zd_X2_perform_13 (fun H locs hw => ?_)
  refine zl_aload_n hx hb zd_X2_perform_16 rfl (lv_at hl 0 rfl) ?_
  refine zl_aload_n hx hb zd_X2_perform_17 rfl (lv_at hl 1 rfl) ?_
  refine W.eq (g2 := F0 m 18 ls [va_rf ((some a1)), va_rf ((some q))]) (by rw [na1] <;> rfl) ?_
  replace hf := zo_b hf; obtain ⟨v8, ev8, hf⟩ := hf
  obtain ⟨u9, u9e, u9v⟩ := zo_b ev8
  obtain rfl := zv_i_e u9v
  refine zw_get S hK hw zk_3 (k := 2) (by decide) rfl zm_763 (Or.inl rfl) u9e zd_X2_perform_18 ?_
  replace hf := zo_b hf; obtain ⟨h10, eh10, hf⟩ := hf
  refine zw_put S hK hw zk_2 (k := 4) (by decide) rfl zm_277 (Or.inl rfl) eh10 (ty := .int) (by decide +kernel) rfl rfl zd_X2_perform_21 (fun H locs hw => ?_)
  refine zl_aload_n hx hb zd_X2_perform_24 rfl (lv_at hl 0 rfl) ?_
  refine lv_iload_n hx hb zd_X2_perform_25 rfl (lv_at hl 2 rfl) ?_
  refine zl_aload_n hx hb zd_X2_perform_26 rfl (lv_at hl 0 rfl) ?_
  replace hf := zo_b hf; obtain ⟨v11, ev11, hf⟩ := hf
  obtain ⟨u12, u12e, u12v⟩ := zo_b ev11
  obtain rfl := zv_i_e u12v
  refine zw_get S hK hw zk_2 (k := 2) (by decide) rfl zm_275 (Or.inl rfl) u12e zd_X2_perform_27 ?_
  refine lv_iload_n hx hb zd_X2_perform_30 rfl (lv_at hl 3 rfl) ?_
  refine lv_iconst (v := 0) hx hb zd_X2_perform_31 (by decide) ?_
  replace hf := zo_b hf; obtain ⟨r13, er13, hf⟩ := hf
  refine zw_callV (n := 4) (ci := 2) (q := zc_cl[2]) (As := [.int (x2), .int (v11), .int (x3), .int (0)]) (rest := []) S hK hw (zt_X2_run l g 20 h10 q x2 v11 x3 0 _ er13) zm_1023 zm_1025 zm_21 zq_X2_run zm_77 (by decide +kernel) ⟨Nat.le_of_ble_eq_true rfl, Nat.le_of_ble_eq_true rfl⟩ rfl rfl rfl (zi_X2_run er13) hl.1 rfl (by simp [zv_cat, zv_ci, zv_cj]) zd_X2_perform_32 ⟨(Nat.le_refl 0), (Nat.le_refl 0)⟩ (fun H locs hw => ?_)
  replace hw : zc_W g r13.1 H locs := hw
  have hres := Option.some.inj hf; subst hres
  exact zw_iret (v := r13.2) (ty := .int) hx hb hr hlk rfl hw zd_X2_perform_35 (Nat.le_refl 0) (Nat.le_refl 0)
def zf_X3_init (h : zc_H) (q : Nat) (x1 : Int32) (x2 : Int32) (x3 : Int32) (x4 : Option Nat) (x5 : Int32) (x6 : Int32) : Option (zc_H) :=
  if ¬ zf_is h q 3 = true then none else
  (zf_p h q 3 0 (.int (x1))).bind fun h1 =>
  (zf_p h1 q 3 1 (.int (x2))).bind fun h2 =>
  (zf_p h2 q 3 2 (.int (x3))).bind fun h3 =>
  (zf_p h3 q 3 3 (va_rf (x4))).bind fun h4 =>
  (zf_p h4 q 3 4 (.int (x5))).bind fun h5 =>
  (zf_p h5 q 3 5 (.int (x6))).bind fun h6 =>
  some h6
abbrev zr_X3_init : Room := { frames := 1, cells := 0, slots := 0, locals := 40 }
theorem zi_X3_init {h : zc_H} {q : Nat} {x1 : Int32} {x2 : Int32} {x3 : Int32} {x4 : Option Nat} {x5 : Int32} {x6 : Int32} {res : zc_H} (hf : zf_X3_init h q x1 x2 x3 x4 x5 x6 = some res) : zf_is h q 3 = true := Decidable.not_not.mp (zo_n hf).1
set_option maxHeartbeats 4000000 in
set_option maxRecDepth 20000 in
theorem zt_X3_init (l : Launch) (g : zc_G) (h : zc_H) (q : Nat) (x1 : Int32) (x2 : Int32) (x3 : Int32) (x4 : Option Nat) (x5 : Int32) (x6 : Int32) (res : zc_H) (hf : zf_X3_init h q x1 x2 x3 x4 x5 x6 = some res) : zc_M l g yX3_init cX3_init 7 none zr_X3_init h [va_rf ((some q)), .int (x1), .int (x2), .int (x3), va_rf (x4), .int (x5), .int (x6)] res none := by
  refine zc_M.of (by decide) (by simp [lg_sl, zv_cat, zv_ci, zv_cj]) ?_
  intro p e s m below meth c ls S hK hw hr hlk hnm hl
  replace S : CallFix p m c cX3_init 7 s [va_rf ((some q)), .int (x1), .int (x2), .int (x3), va_rf (x4), .int (x5), .int (x6)].toArray (zc_ws yX3_init cX3_init 7 none) RX3 := S
  have hx := S.1
  have hb := S.2.1
  replace hl : lv_has ls 7 [(0, va_rf ((some q))), (1, .int (x1)), (2, .int (x2)), (3, .int (x3)), (4, va_rf (x4)), (5, .int (x5)), (6, .int (x6))] := by simpa [lv_args, zv_cat, zv_ci, zv_cj] using hl
  generalize s.heap = H at hw ⊢
  obtain ⟨locs, hlocs⟩ : ∃ L : List Loc, L = [] := ⟨_, rfl⟩
  rw [← hlocs] at hw ⊢
  unfold zf_X3_init at hf
  obtain ⟨-, hf⟩ := zo_n hf
  refine zl_aload_n hx hb zd_X3_init_0 rfl (lv_at hl 0 rfl) ?_
  refine W.objInit hx hb S.2.2.2.1 (S.2.2.2.2 _ (List.mem_cons_of_mem _ zm_754)) (S.2.2.2.2 _ (List.mem_cons_of_mem _ zm_95)) (S.2.2.2.2 _ (List.mem_cons_of_mem _ zm_96)) rfl (by rw [S.2.2.1]; exact hl.1) rfl zd_X3_init_1 (Nat.le_of_ble_eq_true rfl) (by simp [F0, JFrame.monitorRoom, zv_cat, zv_ci, zv_cj, zr_X3_init]) ?_
  refine W.eq (g2 := F0 m 4 ls []) rfl ?_
  refine zl_aload_n hx hb zd_X3_init_4 rfl (lv_at hl 0 rfl) ?_
  refine lv_iload_n hx hb zd_X3_init_5 rfl (lv_at hl 1 rfl) ?_
  replace hf := zo_b hf; obtain ⟨h1, eh1, hf⟩ := hf
  refine zw_putF S hK hw zk_3 (k := 0) (by decide) rfl zm_755 hnm eh1 (ty := .int) (by decide +kernel) rfl rfl zd_X3_init_6 (fun H locs hw => ?_)
  refine zl_aload_n hx hb zd_X3_init_9 rfl (lv_at hl 0 rfl) ?_
  refine lv_iload_n hx hb zd_X3_init_10 rfl (lv_at hl 2 rfl) ?_
  replace hf := zo_b hf; obtain ⟨h2, eh2, hf⟩ := hf
  refine zw_putF S hK hw zk_3 (k := 1) (by decide) rfl zm_757 hnm eh2 (ty := .int) (by decide +kernel) rfl rfl zd_X3_init_11 (fun H locs hw => ?_)
  refine zl_aload_n hx hb zd_X3_init_14 rfl (lv_at hl 0 rfl) ?_
  refine lv_iload_n hx hb zd_X3_init_15 rfl (lv_at hl 3 rfl) ?_
  replace hf := zo_b hf; obtain ⟨h3, eh3, hf⟩ := hf
  refine zw_putF S hK hw zk_3 (k := 2) (by decide) rfl zm_762 hnm eh3 (ty := .int) (by decide +kernel) rfl rfl zd_X3_init_16 (fun H locs hw => ?_)
  refine zl_aload_n hx hb zd_X3_init_19 rfl (lv_at hl 0 rfl) ?_
  refine zl_aload hx hb zd_X3_init_20 (lv_at hl 4 rfl) ?_
  replace hf := zo_b hf; obtain ⟨h4, eh4, hf⟩ := hf
  refine zw_putF S hK hw zk_3 (k := 3) (by decide) rfl zm_765 hnm eh4 (ty := (.object "LineRemarks$Revision")) (by decide +kernel) (zv_rnO _ _) (zv_rfO _ _) zd_X3_init_22 (fun H locs hw => ?_)
  refine zl_aload_n hx hb zd_X3_init_25 rfl (lv_at hl 0 rfl) ?_
  refine lv_iload hx hb zd_X3_init_26 (lv_at hl 5 rfl) ?_
  replace hf := zo_b hf; obtain ⟨h5, eh5, hf⟩ := hf
  refine zw_putF S hK hw zk_3 (k := 4) (by decide) rfl zm_769 hnm eh5 (ty := .int) (by decide +kernel) rfl rfl zd_X3_init_28 (fun H locs hw => ?_)
  refine zl_aload_n hx hb zd_X3_init_31 rfl (lv_at hl 0 rfl) ?_
  refine lv_iload hx hb zd_X3_init_32 (lv_at hl 6 rfl) ?_
  replace hf := zo_b hf; obtain ⟨h6, eh6, hf⟩ := hf
  refine zw_putF S hK hw zk_3 (k := 5) (by decide) rfl zm_772 hnm eh6 (ty := .int) (by decide +kernel) rfl rfl zd_X3_init_34 (fun H locs hw => ?_)
  have hres := Option.some.inj hf; subst hres
  exact zw_vret hx hb hr hlk hw zd_X3_init_37 (Nat.le_refl 0) (Nat.le_refl 0)
def zf_X3_madeOn (h : zc_H) (q : Nat) (x1 : Option Nat) (x2 : Int32) : Option (zc_H × Option Nat) :=
  if ¬ zf_is h q 3 = true then none else
  (some (zf_new h (.inr (3, [.int 0, .int 0, .int 0, .null, .int 0, .int 0])))).bind fun h1 =>
  (zf_gi h1 q 3 1).bind fun v2 =>
  (zf_gi h1 q 3 2).bind fun v4 =>
  (zf_gi h1 q 3 4).bind fun v6 =>
  (zf_gi h1 q 3 5).bind fun v8 =>
  (zf_X3_init h1 h.2.1 x2 v2 v4 x1 v6 v8).bind fun r10 =>
  some (r10, (some h.2.1))
abbrev zr_X3_madeOn : Room := { frames := 2, cells := 1, slots := 6, locals := 66 }
theorem zi_X3_madeOn {h : zc_H} {q : Nat} {x1 : Option Nat} {x2 : Int32} {res : zc_H × Option Nat} (hf : zf_X3_madeOn h q x1 x2 = some res) : zf_is h q 3 = true := Decidable.not_not.mp (zo_n hf).1
set_option maxHeartbeats 4000000 in
set_option maxRecDepth 20000 in
theorem zt_X3_madeOn (l : Launch) (g : zc_G) (h : zc_H) (q : Nat) (x1 : Option Nat) (x2 : Int32) (res : zc_H × Option Nat) (hf : zf_X3_madeOn h q x1 x2 = some res) : zc_M l g yX3_madeOn cX3_madeOn 3 (some (.object "LineRemarks$Remark")) zr_X3_madeOn h [va_rf ((some q)), va_rf (x1), .int (x2)] res.1 (some (va_rf (res.2))) := by
  refine zc_M.of (by decide) (by simp [lg_sl, zv_cat, zv_ci, zv_cj]) ?_
  intro p e s m below meth c ls S hK hw hr hlk hnm hl
  replace S : CallFix p m c cX3_madeOn 3 s [va_rf ((some q)), va_rf (x1), .int (x2)].toArray (zc_ws yX3_madeOn cX3_madeOn 3 (some (.object "LineRemarks$Remark"))) RX3 := S
  have hx := S.1
  have hb := S.2.1
  replace hl : lv_has ls 3 [(0, va_rf ((some q))), (1, va_rf (x1)), (2, .int (x2))] := by simpa [lv_args, zv_cat, zv_ci, zv_cj] using hl
  generalize s.heap = H at hw ⊢
  obtain ⟨locs, hlocs⟩ : ∃ L : List Loc, L = [] := ⟨_, rfl⟩
  rw [← hlocs] at hw ⊢
  unfold zf_X3_madeOn at hf
  obtain ⟨-, hf⟩ := zo_n hf
  replace hf := zo_b hf; obtain ⟨h1, eh1, hf⟩ := hf
  refine zw_new (ci := 3) (ty := tyX3) (fs := [.int 0, .int 0, .int 0, .null, .int 0, .int 0]) S hK hw zk_3 (fun k hk => tyX3_ok k hk) (by decide) zm_986 zm_747 zm_87 (by show _ ≤ (1 : Nat); omega) (by show _ ≤ (6 : Nat); omega) zd_X3_madeOn_0 (fun H hw => ?_)
  replace hw : zc_W g h1 H locs := (Option.some.inj eh1) ▸ hw
  refine lv_dup hx hb zd_X3_madeOn_3 rfl ?_
  refine lv_iload_n hx hb zd_X3_madeOn_4 rfl (lv_at hl 2 rfl) ?_
  refine zl_aload_n hx hb zd_X3_madeOn_5 rfl (lv_at hl 0 rfl) ?_
  replace hf := zo_b hf; obtain ⟨v2, ev2, hf⟩ := hf
  obtain ⟨u3, u3e, u3v⟩ := zo_b ev2
  obtain rfl := zv_i_e u3v
  refine zw_get S hK hw zk_3 (k := 1) (by decide) rfl zm_757 (Or.inl rfl) u3e zd_X3_madeOn_6 ?_
  refine zl_aload_n hx hb zd_X3_madeOn_9 rfl (lv_at hl 0 rfl) ?_
  replace hf := zo_b hf; obtain ⟨v4, ev4, hf⟩ := hf
  obtain ⟨u5, u5e, u5v⟩ := zo_b ev4
  obtain rfl := zv_i_e u5v
  refine zw_get S hK hw zk_3 (k := 2) (by decide) rfl zm_762 (Or.inl rfl) u5e zd_X3_madeOn_10 ?_
  refine zl_aload_n hx hb zd_X3_madeOn_13 rfl (lv_at hl 1 rfl) ?_
  refine zl_aload_n hx hb zd_X3_madeOn_14 rfl (lv_at hl 0 rfl) ?_
  replace hf := zo_b hf; obtain ⟨v6, ev6, hf⟩ := hf
  obtain ⟨u7, u7e, u7v⟩ := zo_b ev6
  obtain rfl := zv_i_e u7v
  refine zw_get S hK hw zk_3 (k := 4) (by decide) rfl zm_769 (Or.inl rfl) u7e zd_X3_madeOn_15 ?_
  refine zl_aload_n hx hb zd_X3_madeOn_18 rfl (lv_at hl 0 rfl) ?_
  replace hf := zo_b hf; obtain ⟨v8, ev8, hf⟩ := hf
  obtain ⟨u9, u9e, u9v⟩ := zo_b ev8
  obtain rfl := zv_i_e u9v
  refine zw_get S hK hw zk_3 (k := 5) (by decide) rfl zm_772 (Or.inl rfl) u9e zd_X3_madeOn_19 ?_
  replace hf := zo_b hf; obtain ⟨r10, er10, hf⟩ := hf
  refine zw_callI (n := 6) (As := [.int (x2), .int (v2), .int (v4), va_rf (x1), .int (v6), .int (v8)]) (rest := [va_rf ((some h.2.1))]) S hK hw (zt_X3_init l g h1 h.2.1 x2 v2 v4 x1 v6 v8 _ er10) rfl zm_987 zm_752 zq_X3_init zm_87 (by decide +kernel) ⟨Nat.le_of_ble_eq_true rfl, Nat.le_of_ble_eq_true rfl⟩ rfl hl.1 rfl (by simp [zv_cat, zv_ci, zv_cj]) zd_X3_madeOn_22 ⟨(by show (0 + 1) + (0 : Nat) ≤ (1 : Nat); omega), (by show (0 + 6) + (0 : Nat) ≤ (6 : Nat); omega)⟩ (fun H locs hw => ?_)
  replace hw : zc_W g r10 H locs := hw
  refine W.widen (k := ((0 + 1) + 0)) (n := ((0 + 6) + 0)) (Nat.le_refl _) (Nat.le_refl _) ?_
  have hres := Option.some.inj hf; subst hres
  exact zw_aret hx hb hr (by first | exact Or.inl ⟨_, rfl⟩ | exact Or.inr ⟨_, rfl⟩) hlk hw zd_X3_madeOn_25 (by show _ ≤ (1 : Nat); omega) (by show _ ≤ (6 : Nat); omega)
def zf_X9_lastOf (h : zc_H) (x0 : Int32) : Option (Int32) :=
  if x0 = (-1) then
    some (-1)
  else
  some (x0 &&& 31)
abbrev zr_X9_lastOf : Room := { frames := 0, cells := 0, slots := 0, locals := 0 }
set_option maxHeartbeats 4000000 in
set_option maxRecDepth 20000 in
theorem zt_X9_lastOf (l : Launch) (g : zc_G) (h : zc_H) (x0 : Int32) (res : Int32) (hf : zf_X9_lastOf h x0 = some res) : zc_M l g yX9_lastOf cX9_lastOf 1 (some .int) zr_X9_lastOf h [.int (x0)] h (some (.int (res))) := by
  refine zc_M.of (by decide) (by simp [lg_sl, zv_cat, zv_ci, zv_cj]) ?_
  intro p e s m below meth c ls S hK hw hr hlk hnm hl
  replace S : CallFix p m c cX9_lastOf 1 s [.int (x0)].toArray (zc_ws yX9_lastOf cX9_lastOf 1 (some .int)) RX9 := S
  have hx := S.1
  have hb := S.2.1
  replace hl : lv_has ls 1 [(0, .int (x0))] := by simpa [lv_args, zv_cat, zv_ci, zv_cj] using hl
  generalize s.heap = H at hw ⊢
  obtain ⟨locs, hlocs⟩ : ∃ L : List Loc, L = [] := ⟨_, rfl⟩
  rw [← hlocs] at hw ⊢
  unfold zf_X9_lastOf at hf
  refine lv_iload_n hx hb zd_X9_lastOf_0 rfl (lv_at hl 0 rfl) ?_
  refine lv_iconst (v := (-1)) hx hb zd_X9_lastOf_1 (by decide) ?_
  refine lv_icmp_ne (tgt := 9) hx hb zd_X9_lastOf_2 (by decide) (fun c1 => ?_) (fun c1 => ?_)
  · replace hf := zo_f c1 hf
    refine lv_iload_n hx hb zd_X9_lastOf_9 rfl (lv_at hl 0 rfl) ?_
    refine lv_bipush (v := 31) hx hb zd_X9_lastOf_10 (by decide) ?_
    refine lv_iand hx hb zd_X9_lastOf_12 ?_
    have hres := Option.some.inj hf; subst hres
    exact zw_iret (v := (x0 &&& 31)) (ty := .int) hx hb hr hlk rfl hw zd_X9_lastOf_13 (Nat.le_refl 0) (Nat.le_refl 0)
  · replace hf := zo_t c1 hf
    refine lv_iconst (v := (-1)) hx hb zd_X9_lastOf_5 (by decide) ?_
    refine lv_goto (tgt := 13) hx hb zd_X9_lastOf_6 (by decide) ?_
    have hres := Option.some.inj hf; subst hres
    exact zw_iret (v := (-1)) (ty := .int) hx hb hr hlk rfl hw zd_X9_lastOf_13 (Nat.le_refl 0) (Nat.le_refl 0)
def zf_X9_firstOf (h : zc_H) (x0 : Int32) : Option (Int32) :=
  if x0 = (-1) then
    some (-1)
  else
  some (x0 >>> (5 &&& 31))
abbrev zr_X9_firstOf : Room := { frames := 0, cells := 0, slots := 0, locals := 0 }
set_option maxHeartbeats 4000000 in
set_option maxRecDepth 20000 in
theorem zt_X9_firstOf (l : Launch) (g : zc_G) (h : zc_H) (x0 : Int32) (res : Int32) (hf : zf_X9_firstOf h x0 = some res) : zc_M l g yX9_firstOf cX9_firstOf 1 (some .int) zr_X9_firstOf h [.int (x0)] h (some (.int (res))) := by
  refine zc_M.of (by decide) (by simp [lg_sl, zv_cat, zv_ci, zv_cj]) ?_
  intro p e s m below meth c ls S hK hw hr hlk hnm hl
  replace S : CallFix p m c cX9_firstOf 1 s [.int (x0)].toArray (zc_ws yX9_firstOf cX9_firstOf 1 (some .int)) RX9 := S
  have hx := S.1
  have hb := S.2.1
  replace hl : lv_has ls 1 [(0, .int (x0))] := by simpa [lv_args, zv_cat, zv_ci, zv_cj] using hl
  generalize s.heap = H at hw ⊢
  obtain ⟨locs, hlocs⟩ : ∃ L : List Loc, L = [] := ⟨_, rfl⟩
  rw [← hlocs] at hw ⊢
  unfold zf_X9_firstOf at hf
  refine lv_iload_n hx hb zd_X9_firstOf_0 rfl (lv_at hl 0 rfl) ?_
  refine lv_iconst (v := (-1)) hx hb zd_X9_firstOf_1 (by decide) ?_
  refine lv_icmp_ne (tgt := 9) hx hb zd_X9_firstOf_2 (by decide) (fun c1 => ?_) (fun c1 => ?_)
  · replace hf := zo_f c1 hf
    refine lv_iload_n hx hb zd_X9_firstOf_9 rfl (lv_at hl 0 rfl) ?_
    refine lv_iconst (v := 5) hx hb zd_X9_firstOf_10 (by decide) ?_
    refine lv_ishr hx hb zd_X9_firstOf_11 ?_
    have hres := Option.some.inj hf; subst hres
    exact zw_iret (v := (x0 >>> (5 &&& 31))) (ty := .int) hx hb hr hlk rfl hw zd_X9_firstOf_12 (Nat.le_refl 0) (Nat.le_refl 0)
  · replace hf := zo_t c1 hf
    refine lv_iconst (v := (-1)) hx hb zd_X9_firstOf_5 (by decide) ?_
    refine lv_goto (tgt := 12) hx hb zd_X9_firstOf_6 (by decide) ?_
    have hres := Option.some.inj hf; subst hres
    exact zw_iret (v := (-1)) (ty := .int) hx hb hr hlk rfl hw zd_X9_firstOf_12 (Nat.le_refl 0) (Nat.le_refl 0)
def zf_X9_lengthOf (h : zc_H) (x0 : Int32) : Option (Int32) :=
  (zf_X9_lastOf h x0).bind fun r1 =>
  (zf_X9_firstOf h x0).bind fun r2 =>
  some ((r1 - r2) + 1)
abbrev zr_X9_lengthOf : Room := { frames := 1, cells := 0, slots := 0, locals := 20 }
set_option maxHeartbeats 4000000 in
set_option maxRecDepth 20000 in
theorem zt_X9_lengthOf (l : Launch) (g : zc_G) (h : zc_H) (x0 : Int32) (res : Int32) (hf : zf_X9_lengthOf h x0 = some res) : zc_M l g yX9_lengthOf cX9_lengthOf 1 (some .int) zr_X9_lengthOf h [.int (x0)] h (some (.int (res))) := by
  refine zc_M.of (by decide) (by simp [lg_sl, zv_cat, zv_ci, zv_cj]) ?_
  intro p e s m below meth c ls S hK hw hr hlk hnm hl
  replace S : CallFix p m c cX9_lengthOf 1 s [.int (x0)].toArray (zc_ws yX9_lengthOf cX9_lengthOf 1 (some .int)) RX9 := S
  have hx := S.1
  have hb := S.2.1
  replace hl : lv_has ls 1 [(0, .int (x0))] := by simpa [lv_args, zv_cat, zv_ci, zv_cj] using hl
  generalize s.heap = H at hw ⊢
  obtain ⟨locs, hlocs⟩ : ∃ L : List Loc, L = [] := ⟨_, rfl⟩
  rw [← hlocs] at hw ⊢
  unfold zf_X9_lengthOf at hf
  refine lv_iload_n hx hb zd_X9_lengthOf_0 rfl (lv_at hl 0 rfl) ?_
  replace hf := zo_b hf; obtain ⟨r1, er1, hf⟩ := hf
  refine zw_callS (n := 1) (As := [.int (x0)]) (rest := []) S hK hw (zt_X9_lastOf l g h x0 _ er1) zm_470 zm_471 zq_X9_lastOf zm_68 (by decide +kernel) ⟨Nat.le_of_ble_eq_true rfl, Nat.le_of_ble_eq_true rfl⟩ rfl hl.1 rfl (by simp [zv_cat, zv_ci, zv_cj]) zd_X9_lengthOf_1 ⟨(Nat.le_refl 0), (Nat.le_refl 0)⟩ (fun H locs hw => ?_)
  replace hw : zc_W g h H locs := hw
  refine lv_iload_n hx hb zd_X9_lengthOf_4 rfl (lv_at hl 0 rfl) ?_
  replace hf := zo_b hf; obtain ⟨r2, er2, hf⟩ := hf
  refine zw_callS (n := 1) (As := [.int (x0)]) (rest := [.int (r1)]) S hK hw (zt_X9_firstOf l g h x0 _ er2) zm_473 zm_474 zq_X9_firstOf zm_68 (by decide +kernel) ⟨Nat.le_of_ble_eq_true rfl, Nat.le_of_ble_eq_true rfl⟩ rfl hl.1 rfl (by simp [zv_cat, zv_ci, zv_cj]) zd_X9_lengthOf_5 ⟨(Nat.le_refl 0), (Nat.le_refl 0)⟩ (fun H locs hw => ?_)
  replace hw : zc_W g h H locs := hw
  refine lv_isub hx hb zd_X9_lengthOf_8 ?_
  refine lv_iconst (v := 1) hx hb zd_X9_lengthOf_9 (by decide) ?_
  refine lv_iadd hx hb zd_X9_lengthOf_10 ?_
  have hres := Option.some.inj hf; subst hres
  exact zw_iret (v := ((r1 - r2) + 1)) (ty := .int) hx hb hr hlk rfl hw zd_X9_lengthOf_11 (Nat.le_refl 0) (Nat.le_refl 0)
def zf_X3_wordAs (h : zc_H) (q : Nat) (x1 : Int32) : Option (Int32) :=
  if ¬ zf_is h q 3 = true then none else
  if x1 = 1 then
    (zf_gi h q 3 2).bind fun v2 =>
    some v2
  else
  if x1 = 2 then
    (zf_gi h q 3 4).bind fun v5 =>
    (zf_X9_lengthOf h v5).bind fun r7 =>
    some r7
  else
  if x1 = 3 then
    (zf_gi h q 3 2).bind fun v9 =>
    some v9
  else
  if x1 = 4 then
    (zf_gi h q 3 4).bind fun v12 =>
    (zf_X9_lastOf h v12).bind fun r14 =>
    some r14
  else
  if x1 = 5 then
    (zf_gi h q 3 4).bind fun v16 =>
    (zf_X9_lengthOf h v16).bind fun r18 =>
    some r18
  else
  if x1 = 6 then
    (zf_gr h q 3 3).bind fun v20 =>
    v20.bind fun a22 =>
    (zf_gi h a22 4 0).bind fun v23 =>
    some v23
  else
  (zf_gi h q 3 4).bind fun v25 =>
  (zf_X9_firstOf h v25).bind fun r27 =>
  some r27
abbrev zr_X3_wordAs : Room := { frames := 2, cells := 0, slots := 0, locals := 40 }
theorem zi_X3_wordAs {h : zc_H} {q : Nat} {x1 : Int32} {res : Int32} (hf : zf_X3_wordAs h q x1 = some res) : zf_is h q 3 = true := Decidable.not_not.mp (zo_n hf).1
set_option maxHeartbeats 4000000 in
set_option maxRecDepth 20000 in
theorem zt_X3_wordAs (l : Launch) (g : zc_G) (h : zc_H) (q : Nat) (x1 : Int32) (res : Int32) (hf : zf_X3_wordAs h q x1 = some res) : zc_M l g yX3_wordAs cX3_wordAs 2 (some .int) zr_X3_wordAs h [va_rf ((some q)), .int (x1)] h (some (.int (res))) := by
  refine zc_M.of (by decide) (by simp [lg_sl, zv_cat, zv_ci, zv_cj]) ?_
  intro p e s m below meth c ls S hK hw hr hlk hnm hl
  replace S : CallFix p m c cX3_wordAs 2 s [va_rf ((some q)), .int (x1)].toArray (zc_ws yX3_wordAs cX3_wordAs 2 (some .int)) RX3 := S
  have hx := S.1
  have hb := S.2.1
  replace hl : lv_has ls 2 [(0, va_rf ((some q))), (1, .int (x1))] := by simpa [lv_args, zv_cat, zv_ci, zv_cj] using hl
  generalize s.heap = H at hw ⊢
  obtain ⟨locs, hlocs⟩ : ∃ L : List Loc, L = [] := ⟨_, rfl⟩
  rw [← hlocs] at hw ⊢
  unfold zf_X3_wordAs at hf
  obtain ⟨-, hf⟩ := zo_n hf
  refine lv_iload_n hx hb zd_X3_wordAs_0 rfl (lv_at hl 1 rfl) ?_
  by_cases c1 : x1 = 1
  · replace hf := zo_t c1 hf
    refine W.eq (g2 := F0 m 1 ls (.int 1 :: [])) (by rw [c1] <;> rfl) ?_
    refine lv_tableIn (off := 39) (tgt := 40) hx hb zd_X3_wordAs_1 (by decide) (by decide) (by decide) (by decide) ?_
    refine zl_aload_n hx hb zd_X3_wordAs_40 rfl (lv_at hl 0 rfl) ?_
    replace hf := zo_b hf; obtain ⟨v2, ev2, hf⟩ := hf
    obtain ⟨u3, u3e, u3v⟩ := zo_b ev2
    obtain rfl := zv_i_e u3v
    refine zw_get S hK hw zk_3 (k := 2) (by decide) rfl zm_762 (Or.inl rfl) u3e zd_X3_wordAs_41 ?_
    have hres := Option.some.inj hf; subst hres
    exact zw_iret (v := v2) (ty := .int) hx hb hr hlk rfl hw zd_X3_wordAs_44 (Nat.le_refl 0) (Nat.le_refl 0)
  replace hf := zo_f c1 hf
  by_cases c4 : x1 = 2
  · replace hf := zo_t c4 hf
    refine W.eq (g2 := F0 m 1 ls (.int 2 :: [])) (by rw [c4] <;> rfl) ?_
    refine lv_tableIn (off := 44) (tgt := 45) hx hb zd_X3_wordAs_1 (by decide) (by decide) (by decide) (by decide) ?_
    refine zl_aload_n hx hb zd_X3_wordAs_45 rfl (lv_at hl 0 rfl) ?_
    replace hf := zo_b hf; obtain ⟨v5, ev5, hf⟩ := hf
    obtain ⟨u6, u6e, u6v⟩ := zo_b ev5
    obtain rfl := zv_i_e u6v
    refine zw_get S hK hw zk_3 (k := 4) (by decide) rfl zm_769 (Or.inl rfl) u6e zd_X3_wordAs_46 ?_
    replace hf := zo_b hf; obtain ⟨r7, er7, hf⟩ := hf
    refine zw_callSN (n := 1) (As := [.int (v5)]) (rest := []) S hK hw (zt_X9_lengthOf l g h v5 _ er7) zm_467 zm_468 zq_X9_lengthOf zm_68 (by decide +kernel) ⟨Nat.le_of_ble_eq_true rfl, Nat.le_of_ble_eq_true rfl⟩ rfl hl.1 rfl (by simp [zv_cat, zv_ci, zv_cj]) zd_X3_wordAs_49 ⟨(Nat.le_refl 0), (Nat.le_refl 0)⟩ (fun H locs hw => ?_)
    replace hw : zc_W g h H locs := hw
    have hres := Option.some.inj hf; subst hres
    exact zw_iret (v := r7) (ty := .int) hx hb hr hlk rfl hw zd_X3_wordAs_52 (Nat.le_refl 0) (Nat.le_refl 0)
  replace hf := zo_f c4 hf
  by_cases c8 : x1 = 3
  · replace hf := zo_t c8 hf
    refine W.eq (g2 := F0 m 1 ls (.int 3 :: [])) (by rw [c8] <;> rfl) ?_
    refine lv_tableIn (off := 39) (tgt := 40) hx hb zd_X3_wordAs_1 (by decide) (by decide) (by decide) (by decide) ?_
    refine zl_aload_n hx hb zd_X3_wordAs_40 rfl (lv_at hl 0 rfl) ?_
    replace hf := zo_b hf; obtain ⟨v9, ev9, hf⟩ := hf
    obtain ⟨u10, u10e, u10v⟩ := zo_b ev9
    obtain rfl := zv_i_e u10v
    refine zw_get S hK hw zk_3 (k := 2) (by decide) rfl zm_762 (Or.inl rfl) u10e zd_X3_wordAs_41 ?_
    have hres := Option.some.inj hf; subst hres
    exact zw_iret (v := v9) (ty := .int) hx hb hr hlk rfl hw zd_X3_wordAs_44 (Nat.le_refl 0) (Nat.le_refl 0)
  replace hf := zo_f c8 hf
  by_cases c11 : x1 = 4
  · replace hf := zo_t c11 hf
    refine W.eq (g2 := F0 m 1 ls (.int 4 :: [])) (by rw [c11] <;> rfl) ?_
    refine lv_tableIn (off := 52) (tgt := 53) hx hb zd_X3_wordAs_1 (by decide) (by decide) (by decide) (by decide) ?_
    refine zl_aload_n hx hb zd_X3_wordAs_53 rfl (lv_at hl 0 rfl) ?_
    replace hf := zo_b hf; obtain ⟨v12, ev12, hf⟩ := hf
    obtain ⟨u13, u13e, u13v⟩ := zo_b ev12
    obtain rfl := zv_i_e u13v
    refine zw_get S hK hw zk_3 (k := 4) (by decide) rfl zm_769 (Or.inl rfl) u13e zd_X3_wordAs_54 ?_
    replace hf := zo_b hf; obtain ⟨r14, er14, hf⟩ := hf
    refine zw_callSN (n := 1) (As := [.int (v12)]) (rest := []) S hK hw (zt_X9_lastOf l g h v12 _ er14) zm_476 zm_471 zq_X9_lastOf zm_68 (by decide +kernel) ⟨Nat.le_of_ble_eq_true rfl, Nat.le_of_ble_eq_true rfl⟩ rfl hl.1 rfl (by simp [zv_cat, zv_ci, zv_cj]) zd_X3_wordAs_57 ⟨(Nat.le_refl 0), (Nat.le_refl 0)⟩ (fun H locs hw => ?_)
    replace hw : zc_W g h H locs := hw
    have hres := Option.some.inj hf; subst hres
    exact zw_iret (v := r14) (ty := .int) hx hb hr hlk rfl hw zd_X3_wordAs_60 (Nat.le_refl 0) (Nat.le_refl 0)
  replace hf := zo_f c11 hf
  by_cases c15 : x1 = 5
  · replace hf := zo_t c15 hf
    refine W.eq (g2 := F0 m 1 ls (.int 5 :: [])) (by rw [c15] <;> rfl) ?_
    refine lv_tableIn (off := 44) (tgt := 45) hx hb zd_X3_wordAs_1 (by decide) (by decide) (by decide) (by decide) ?_
    refine zl_aload_n hx hb zd_X3_wordAs_45 rfl (lv_at hl 0 rfl) ?_
    replace hf := zo_b hf; obtain ⟨v16, ev16, hf⟩ := hf
    obtain ⟨u17, u17e, u17v⟩ := zo_b ev16
    obtain rfl := zv_i_e u17v
    refine zw_get S hK hw zk_3 (k := 4) (by decide) rfl zm_769 (Or.inl rfl) u17e zd_X3_wordAs_46 ?_
    replace hf := zo_b hf; obtain ⟨r18, er18, hf⟩ := hf
    refine zw_callSN (n := 1) (As := [.int (v16)]) (rest := []) S hK hw (zt_X9_lengthOf l g h v16 _ er18) zm_467 zm_468 zq_X9_lengthOf zm_68 (by decide +kernel) ⟨Nat.le_of_ble_eq_true rfl, Nat.le_of_ble_eq_true rfl⟩ rfl hl.1 rfl (by simp [zv_cat, zv_ci, zv_cj]) zd_X3_wordAs_49 ⟨(Nat.le_refl 0), (Nat.le_refl 0)⟩ (fun H locs hw => ?_)
    replace hw : zc_W g h H locs := hw
    have hres := Option.some.inj hf; subst hres
    exact zw_iret (v := r18) (ty := .int) hx hb hr hlk rfl hw zd_X3_wordAs_52 (Nat.le_refl 0) (Nat.le_refl 0)
  replace hf := zo_f c15 hf
  by_cases c19 : x1 = 6
  · replace hf := zo_t c19 hf
    refine W.eq (g2 := F0 m 1 ls (.int 6 :: [])) (by rw [c19] <;> rfl) ?_
    refine lv_tableIn (off := 60) (tgt := 61) hx hb zd_X3_wordAs_1 (by decide) (by decide) (by decide) (by decide) ?_
    refine zl_aload_n hx hb zd_X3_wordAs_61 rfl (lv_at hl 0 rfl) ?_
    replace hf := zo_b hf; obtain ⟨v20, ev20, hf⟩ := hf
    obtain ⟨u21, u21e, u21v⟩ := zo_b ev20
    obtain rfl := zv_r_e u21v
    refine zw_get S hK hw zk_3 (k := 3) (by decide) rfl zm_765 (Or.inl rfl) u21e zd_X3_wordAs_62 ?_
    replace hf := zo_b hf; obtain ⟨a22, na22, hf⟩ := hf
    refine W.eq (g2 := F0 m 65 ls [va_rf ((some a22))]) (by rw [na22] <;> rfl) ?_
    replace hf := zo_b hf; obtain ⟨v23, ev23, hf⟩ := hf
    obtain ⟨u24, u24e, u24v⟩ := zo_b ev23
    obtain rfl := zv_i_e u24v
    refine zw_get S hK hw zk_4 (k := 0) (by decide) rfl zm_530 (Or.inl rfl) u24e zd_X3_wordAs_65 ?_
    have hres := Option.some.inj hf; subst hres
    exact zw_iret (v := v23) (ty := .int) hx hb hr hlk rfl hw zd_X3_wordAs_68 (Nat.le_refl 0) (Nat.le_refl 0)
  replace hf := zo_f c19 hf
  have zc1 : (x1 : Int32).toInt ≠ 1 := fun h => c1 (Int32.toInt_inj.mp (h.trans (by decide)))
  have zc4 : (x1 : Int32).toInt ≠ 2 := fun h => c4 (Int32.toInt_inj.mp (h.trans (by decide)))
  have zc8 : (x1 : Int32).toInt ≠ 3 := fun h => c8 (Int32.toInt_inj.mp (h.trans (by decide)))
  have zc11 : (x1 : Int32).toInt ≠ 4 := fun h => c11 (Int32.toInt_inj.mp (h.trans (by decide)))
  have zc15 : (x1 : Int32).toInt ≠ 5 := fun h => c15 (Int32.toInt_inj.mp (h.trans (by decide)))
  have zc19 : (x1 : Int32).toInt ≠ 6 := fun h => c19 (Int32.toInt_inj.mp (h.trans (by decide)))
  refine lv_tableOut (tgt := 69) hx hb zd_X3_wordAs_1 (by omega) (by decide) ?_
  refine zl_aload_n hx hb zd_X3_wordAs_69 rfl (lv_at hl 0 rfl) ?_
  replace hf := zo_b hf; obtain ⟨v25, ev25, hf⟩ := hf
  obtain ⟨u26, u26e, u26v⟩ := zo_b ev25
  obtain rfl := zv_i_e u26v
  refine zw_get S hK hw zk_3 (k := 4) (by decide) rfl zm_769 (Or.inl rfl) u26e zd_X3_wordAs_70 ?_
  replace hf := zo_b hf; obtain ⟨r27, er27, hf⟩ := hf
  refine zw_callSN (n := 1) (As := [.int (v25)]) (rest := []) S hK hw (zt_X9_firstOf l g h v25 _ er27) zm_477 zm_474 zq_X9_firstOf zm_68 (by decide +kernel) ⟨Nat.le_of_ble_eq_true rfl, Nat.le_of_ble_eq_true rfl⟩ rfl hl.1 rfl (by simp [zv_cat, zv_ci, zv_cj]) zd_X3_wordAs_73 ⟨(Nat.le_refl 0), (Nat.le_refl 0)⟩ (fun H locs hw => ?_)
  replace hw : zc_W g h H locs := hw
  have hres := Option.some.inj hf; subst hres
  exact zw_iret (v := r27) (ty := .int) hx hb hr hlk rfl hw zd_X3_wordAs_76 (Nat.le_refl 0) (Nat.le_refl 0)
def zf_X4_placeOf (h : zc_H) (q : Nat) (x1 : Int32) : Option (Int32) :=
  if ¬ zf_is h q 4 = true then none else
  if x1 < 0 then
    some (-1)
  else
  (zf_gr h q 4 3).bind fun v2 =>
  v2.bind fun a4 =>
  (zf_len h a4).bind fun v5 =>
  if v5 ≤ x1 then
    some (-1)
  else
  (zf_gr h q 4 3).bind fun v7 =>
  v7.bind fun a9 =>
  (zf_ai h a9 0 x1).bind fun v10 =>
  some v10
abbrev zr_X4_placeOf : Room := { frames := 0, cells := 0, slots := 0, locals := 0 }
theorem zi_X4_placeOf {h : zc_H} {q : Nat} {x1 : Int32} {res : Int32} (hf : zf_X4_placeOf h q x1 = some res) : zf_is h q 4 = true := Decidable.not_not.mp (zo_n hf).1
set_option maxHeartbeats 4000000 in
set_option maxRecDepth 20000 in
theorem zt_X4_placeOf (l : Launch) (g : zc_G) (h : zc_H) (q : Nat) (x1 : Int32) (res : Int32) (hf : zf_X4_placeOf h q x1 = some res) : zc_M l g yX4_placeOf cX4_placeOf 2 (some .int) zr_X4_placeOf h [va_rf ((some q)), .int (x1)] h (some (.int (res))) := by
  refine zc_M.of (by decide) (by simp [lg_sl, zv_cat, zv_ci, zv_cj]) ?_
  intro p e s m below meth c ls S hK hw hr hlk hnm hl
  replace S : CallFix p m c cX4_placeOf 2 s [va_rf ((some q)), .int (x1)].toArray (zc_ws yX4_placeOf cX4_placeOf 2 (some .int)) RX4 := S
  have hx := S.1
  have hb := S.2.1
  replace hl : lv_has ls 2 [(0, va_rf ((some q))), (1, .int (x1))] := by simpa [lv_args, zv_cat, zv_ci, zv_cj] using hl
  generalize s.heap = H at hw ⊢
  obtain ⟨locs, hlocs⟩ : ∃ L : List Loc, L = [] := ⟨_, rfl⟩
  rw [← hlocs] at hw ⊢
  unfold zf_X4_placeOf at hf
  obtain ⟨-, hf⟩ := zo_n hf
  refine lv_iload_n hx hb zd_X4_placeOf_0 rfl (lv_at hl 1 rfl) ?_
  refine lv_if_lt (tgt := 22) hx hb zd_X4_placeOf_1 (by decide) (fun c1 => ?_) (fun c1 => ?_)
  · replace hf := zo_t c1 hf
    refine lv_iconst (v := (-1)) hx hb zd_X4_placeOf_22 (by decide) ?_
    have hres := Option.some.inj hf; subst hres
    exact zw_iret (v := (-1)) (ty := .int) hx hb hr hlk rfl hw zd_X4_placeOf_23 (Nat.le_refl 0) (Nat.le_refl 0)
  · replace hf := zo_f c1 hf
    refine lv_iload_n hx hb zd_X4_placeOf_4 rfl (lv_at hl 1 rfl) ?_
    refine zl_aload_n hx hb zd_X4_placeOf_5 rfl (lv_at hl 0 rfl) ?_
    replace hf := zo_b hf; obtain ⟨v2, ev2, hf⟩ := hf
    obtain ⟨u3, u3e, u3v⟩ := zo_b ev2
    obtain rfl := zv_r_e u3v
    refine zw_get S hK hw zk_4 (k := 3) (by decide) rfl zm_536 (Or.inl rfl) u3e zd_X4_placeOf_6 ?_
    replace hf := zo_b hf; obtain ⟨a4, na4, hf⟩ := hf
    refine W.eq (g2 := F0 m 9 ls [va_rf ((some a4)), .int (x1)]) (by rw [na4] <;> rfl) ?_
    replace hf := zo_b hf; obtain ⟨v5, ev5, hf⟩ := hf
    refine zw_alen S hK hw ev5 zd_X4_placeOf_9 ?_
    refine lv_icmp_ge (tgt := 22) hx hb zd_X4_placeOf_10 (by decide) (fun c6 => ?_) (fun c6 => ?_)
    · replace hf := zo_t c6 hf
      refine lv_iconst (v := (-1)) hx hb zd_X4_placeOf_22 (by decide) ?_
      have hres := Option.some.inj hf; subst hres
      exact zw_iret (v := (-1)) (ty := .int) hx hb hr hlk rfl hw zd_X4_placeOf_23 (Nat.le_refl 0) (Nat.le_refl 0)
    · replace hf := zo_f c6 hf
      refine zl_aload_n hx hb zd_X4_placeOf_13 rfl (lv_at hl 0 rfl) ?_
      replace hf := zo_b hf; obtain ⟨v7, ev7, hf⟩ := hf
      obtain ⟨u8, u8e, u8v⟩ := zo_b ev7
      obtain rfl := zv_r_e u8v
      refine zw_get S hK hw zk_4 (k := 3) (by decide) rfl zm_536 (Or.inl rfl) u8e zd_X4_placeOf_14 ?_
      refine lv_iload_n hx hb zd_X4_placeOf_17 rfl (lv_at hl 1 rfl) ?_
      replace hf := zo_b hf; obtain ⟨a9, na9, hf⟩ := hf
      refine W.eq (g2 := F0 m 18 ls [.int (x1), va_rf ((some a9))]) (by rw [na9] <;> rfl) ?_
      replace hf := zo_b hf; obtain ⟨v10, ev10, hf⟩ := hf
      refine zw_iald S hK hw ev10 zd_X4_placeOf_18 ?_
      refine lv_goto (tgt := 23) hx hb zd_X4_placeOf_19 (by decide) ?_
      have hres := Option.some.inj hf; subst hres
      exact zw_iret (v := v10) (ty := .int) hx hb hr hlk rfl hw zd_X4_placeOf_23 (Nat.le_refl 0) (Nat.le_refl 0)
def zf_X9_spanOf (h : zc_H) (x0 : Int32) (x1 : Int32) : Option (Int32) :=
  some ((x0 * 32) + x1)
abbrev zr_X9_spanOf : Room := { frames := 0, cells := 0, slots := 0, locals := 0 }
set_option maxHeartbeats 4000000 in
set_option maxRecDepth 20000 in
theorem zt_X9_spanOf (l : Launch) (g : zc_G) (h : zc_H) (x0 : Int32) (x1 : Int32) (res : Int32) (hf : zf_X9_spanOf h x0 x1 = some res) : zc_M l g yX9_spanOf cX9_spanOf 2 (some .int) zr_X9_spanOf h [.int (x0), .int (x1)] h (some (.int (res))) := by
  refine zc_M.of (by decide) (by simp [lg_sl, zv_cat, zv_ci, zv_cj]) ?_
  intro p e s m below meth c ls S hK hw hr hlk hnm hl
  replace S : CallFix p m c cX9_spanOf 2 s [.int (x0), .int (x1)].toArray (zc_ws yX9_spanOf cX9_spanOf 2 (some .int)) RX9 := S
  have hx := S.1
  have hb := S.2.1
  replace hl : lv_has ls 2 [(0, .int (x0)), (1, .int (x1))] := by simpa [lv_args, zv_cat, zv_ci, zv_cj] using hl
  generalize s.heap = H at hw ⊢
  obtain ⟨locs, hlocs⟩ : ∃ L : List Loc, L = [] := ⟨_, rfl⟩
  rw [← hlocs] at hw ⊢
  unfold zf_X9_spanOf at hf
  refine lv_iload_n hx hb zd_X9_spanOf_0 rfl (lv_at hl 0 rfl) ?_
  refine lv_bipush (v := 32) hx hb zd_X9_spanOf_1 (by decide) ?_
  refine lv_imul hx hb zd_X9_spanOf_3 ?_
  refine lv_iload_n hx hb zd_X9_spanOf_4 rfl (lv_at hl 1 rfl) ?_
  refine lv_iadd hx hb zd_X9_spanOf_5 ?_
  have hres := Option.some.inj hf; subst hres
  exact zw_iret (v := ((x0 * 32) + x1)) (ty := .int) hx hb hr hlk rfl hw zd_X9_spanOf_6 (Nat.le_refl 0) (Nat.le_refl 0)
def zf_X4_spreadOf_L8 (h : zc_H) (q : Nat) (y2 : Int32) : Nat → Int32 → Int32 → Int32 → Option (Int32 × Int32)
  | 0, _, _, _ => none
  | n + 1, y3, y4, y5 =>
    if y2 < y5 then
      some (y3, y4)
    else
    (zf_X4_placeOf h q y5).bind fun r2 =>
    let k54 := fun (y54_3 : Int32) (y54_4 : Int32) =>
      zf_X4_spreadOf_L8 h q y2 n y54_3 y54_4 (y5 + 1)
    if r2 = (-1) then
      k54 y3 y4
    else
    let k44 := fun (s44_0 : Int32) =>
      k54 s44_0 (if y4 < r2 then r2 else y4)
    if y3 = (-1) then
      k44 r2
    else
    k44 (if r2 < y3 then r2 else y3)
def zf_X4_spreadOf (h : zc_H) (q : Nat) (x1 : Int32) (x2 : Int32) : Option (Int32) :=
  if ¬ zf_is h q 4 = true then none else
  (zf_X4_spreadOf_L8 h q x2 2000 (-1) (-1) x1).bind fun w5 =>
  if w5.1 = (-1) then
    some (-1)
  else
  (zf_X9_spanOf h w5.1 w5.2).bind fun r7 =>
  some r7
abbrev zr_X4_spreadOf : Room := { frames := 1, cells := 0, slots := 0, locals := 40 }
theorem zi_X4_spreadOf {h : zc_H} {q : Nat} {x1 : Int32} {x2 : Int32} {res : Int32} (hf : zf_X4_spreadOf h q x1 x2 = some res) : zf_is h q 4 = true := Decidable.not_not.mp (zo_n hf).1
set_option maxHeartbeats 4000000 in
set_option maxRecDepth 20000 in
theorem zt_X4_spreadOf (l : Launch) (g : zc_G) (h : zc_H) (q : Nat) (x1 : Int32) (x2 : Int32) (res : Int32) (hf : zf_X4_spreadOf h q x1 x2 = some res) : zc_M l g yX4_spreadOf cX4_spreadOf 7 (some .int) zr_X4_spreadOf h [va_rf ((some q)), .int (x1), .int (x2)] h (some (.int (res))) := by
  refine zc_M.of (by decide) (by simp [lg_sl, zv_cat, zv_ci, zv_cj]) ?_
  intro p e s m below meth c ls S hK hw hr hlk hnm hl
  replace S : CallFix p m c cX4_spreadOf 7 s [va_rf ((some q)), .int (x1), .int (x2)].toArray (zc_ws yX4_spreadOf cX4_spreadOf 7 (some .int)) RX4 := S
  have hx := S.1
  have hb := S.2.1
  replace hl : lv_has ls 7 [(0, va_rf ((some q))), (1, .int (x1)), (2, .int (x2))] := by simpa [lv_args, zv_cat, zv_ci, zv_cj] using hl
  generalize s.heap = H at hw ⊢
  obtain ⟨locs, hlocs⟩ : ∃ L : List Loc, L = [] := ⟨_, rfl⟩
  rw [← hlocs] at hw ⊢
  have L8 : ∀ (h : zc_H) (y2 : Int32) (n : Nat) (y3 : Int32) (y4 : Int32) (y5 : Int32) (w : Int32 × Int32) (H : Heap) (locs : List Loc) (ls : Array Slot), zf_X4_spreadOf_L8 h q y2 n y3 y4 y5 = some w → zc_W g h H locs → lv_has ls 7 [(0, va_rf ((some q))), (2, .int (y2)), (3, .int (y3)), (4, .int (y4)), (5, .int (y5))] → (∀ (H : Heap) (locs : List Loc) (ls : Array Slot), zc_W g h H locs → lv_has ls 7 [(3, .int (w.1)), (4, .int (w.2))] → W p l e zr_X4_spreadOf s m [va_rf ((some q)), .int (x1), .int (x2)].toArray below meth c H locs 0 0 (zc_Q g below zr_X4_spreadOf (some (.int (res))) h [va_rf ((some q)), .int (x1), .int (x2)] s) (F0 m 60 ls [])) → W p l e zr_X4_spreadOf s m [va_rf ((some q)), .int (x1), .int (x2)].toArray below meth c H locs 0 0 (zc_Q g below zr_X4_spreadOf (some (.int (res))) h [va_rf ((some q)), .int (x1), .int (x2)] s) (F0 m 8 ls []) := by
    intro h y2 n
    induction n with
    | zero =>
      intro y3 y4 y5 w H locs ls hf
      cases hf
    | succ n ih =>
      intro y3 y4 y5 w H locs ls hf hw hl  kk
      unfold zf_X4_spreadOf_L8 at hf
      refine lv_iload hx hb zd_X4_spreadOf_8 (lv_at hl 4 rfl) ?_
      refine lv_iload_n hx hb zd_X4_spreadOf_10 rfl (lv_at hl 1 rfl) ?_
      refine lv_icmp_gt (tgt := 60) hx hb zd_X4_spreadOf_11 (by decide) (fun c1 => ?_) (fun c1 => ?_)
      · replace hf := zo_t c1 hf
        have hres := Option.some.inj hf; subst hres
        exact kk _ _ _ hw (lv_sub hl [2, 3] rfl)
      · replace hf := zo_f c1 hf
        refine zl_aload_n hx hb zd_X4_spreadOf_14 rfl (lv_at hl 0 rfl) ?_
        refine lv_iload hx hb zd_X4_spreadOf_15 (lv_at hl 4 rfl) ?_
        replace hf := zo_b hf; obtain ⟨r2, er2, hf⟩ := hf
        refine zw_callV (n := 1) (ci := 4) (q := zc_cl[4]) (As := [.int (y5)]) (rest := []) S hK hw (zt_X4_placeOf l g h q y5 _ er2) zm_853 zm_731 zm_732 zq_X4_placeOf zm_84 (by decide +kernel) ⟨Nat.le_of_ble_eq_true rfl, Nat.le_of_ble_eq_true rfl⟩ rfl rfl rfl (zi_X4_placeOf er2) hl.1 rfl (by simp [zv_cat, zv_ci, zv_cj]) zd_X4_spreadOf_17 ⟨(Nat.le_refl 0), (Nat.le_refl 0)⟩ (fun H locs hw => ?_)
        replace hw : zc_W g h H locs := hw
        refine lv_istore (i := 6) (lv' := [(6, .int (r2)), (0, va_rf ((some q))), (2, .int (y2)), (3, .int (y3)), (4, .int (y4)), (5, .int (y5))]) hx hb zd_X4_spreadOf_20 hl (by decide) rfl (fun ls hl => ?_)
        refine lv_iload hx hb zd_X4_spreadOf_22 (lv_at hl 0 rfl) ?_
        refine lv_iconst (v := (-1)) hx hb zd_X4_spreadOf_24 (by decide) ?_
        have k54h : ∀ (y54_3 : Int32) (y54_4 : Int32) (H : Heap) (locs : List Loc) (ls : Array Slot), (
            zf_X4_spreadOf_L8 h q y2 n y54_3 y54_4 (y5 + 1)
            ) = some w → zc_W g h H locs → lv_has ls 7 [(0, va_rf ((some q))), (2, .int (y2)), (3, .int (y54_3)), (4, .int (y54_4)), (5, .int (y5))] → W p l e zr_X4_spreadOf s m [va_rf ((some q)), .int (x1), .int (x2)].toArray below meth c H locs (0 + 0) (0 + 0) (zc_Q g below zr_X4_spreadOf (some (.int (res))) h [va_rf ((some q)), .int (x1), .int (x2)] s) (F0 m 54 ls []) := by
          intro y54_3 y54_4 H locs ls hf hw hl
          refine lv_iinc (i := 5) (v := (y5 + 1)) (lv' := [(5, .int ((y5 + 1))), (0, va_rf ((some q))), (2, .int (y2)), (3, .int (y54_3)), (4, .int (y54_4))]) hx hb zd_X4_spreadOf_54 hl (k := 4) rfl (congrArg (_ + ·) (by decide)) (by decide) rfl (fun ls hl => ?_)
          refine lv_goto (tgt := 8) hx hb zd_X4_spreadOf_57 (by decide) ?_
          exact ih y54_3 y54_4 (y5 + 1) _ _ _ _ hf hw (lv_sub hl [1, 2, 3, 4, 0] rfl) kk
        refine lv_icmp_eq (tgt := 54) hx hb zd_X4_spreadOf_25 (by decide) (fun c3 => ?_) (fun c3 => ?_)
        · replace hf := zo_t c3 hf
          exact k54h y3 y4 _ _ _ hf hw (lv_sub hl [1, 2, 3, 4, 5] rfl)
        · replace hf := zo_f c3 hf
          refine lv_iload_n hx hb zd_X4_spreadOf_28 rfl (lv_at hl 3 rfl) ?_
          refine lv_iconst (v := (-1)) hx hb zd_X4_spreadOf_29 (by decide) ?_
          have k44h : ∀ (s44_0 : Int32) (H : Heap) (locs : List Loc) (ls : Array Slot), (
              let k54 := fun (y54_3 : Int32) (y54_4 : Int32) =>
                zf_X4_spreadOf_L8 h q y2 n y54_3 y54_4 (y5 + 1)
              k54 s44_0 (if y4 < r2 then r2 else y4)
              ) = some w → zc_W g h H locs → lv_has ls 7 [(0, va_rf ((some q))), (2, .int (y2)), (4, .int (y4)), (5, .int (y5)), (6, .int (r2))] → W p l e zr_X4_spreadOf s m [va_rf ((some q)), .int (x1), .int (x2)].toArray below meth c H locs (0 + 0) (0 + 0) (zc_Q g below zr_X4_spreadOf (some (.int (res))) h [va_rf ((some q)), .int (x1), .int (x2)] s) (F0 m 44 ls [.int (s44_0)]) := by
            intro s44_0 H locs ls hf hw hl
            refine lv_istore_n (i := 3) (lv' := [(3, .int (s44_0)), (0, va_rf ((some q))), (2, .int (y2)), (4, .int (y4)), (5, .int (y5)), (6, .int (r2))]) hx hb zd_X4_spreadOf_44 rfl hl (by decide) rfl (fun ls hl => ?_)
            refine lv_iload hx hb zd_X4_spreadOf_45 (lv_at hl 3 rfl) ?_
            refine lv_iload hx hb zd_X4_spreadOf_47 (lv_at hl 5 rfl) ?_
            refine va_mmax hx hb (S.2.2.1.trans hl.1.symm) S.2.2.2.1 (S.2.2.2.2 _ (List.mem_cons_of_mem _ zm_855)) (S.2.2.2.2 _ (List.mem_cons_of_mem _ zm_569)) (S.2.2.2.2 _ (List.mem_cons_of_mem _ zm_85)) (S.2.2.2.2 _ (List.mem_cons_of_mem _ zm_570)) (Nat.le_of_ble_eq_true rfl) (by simp [zv_cat, zv_ci, zv_cj, zr_X4_spreadOf]) (Nat.le_refl 0) (Nat.le_refl 0) zd_X4_spreadOf_49 ?_
            refine lv_istore (i := 4) (lv' := [(4, .int ((if y4 < r2 then r2 else y4))), (3, .int (s44_0)), (0, va_rf ((some q))), (2, .int (y2)), (5, .int (y5)), (6, .int (r2))]) hx hb zd_X4_spreadOf_52 hl (by decide) rfl (fun ls hl => ?_)
            exact k54h s44_0 (if y4 < r2 then r2 else y4) _ _ _ hf hw (lv_sub hl [2, 3, 1, 0, 4] rfl)
          refine lv_icmp_ne (tgt := 38) hx hb zd_X4_spreadOf_30 (by decide) (fun c4 => ?_) (fun c4 => ?_)
          · replace hf := zo_f c4 hf
            refine lv_iload_n hx hb zd_X4_spreadOf_38 rfl (lv_at hl 3 rfl) ?_
            refine lv_iload hx hb zd_X4_spreadOf_39 (lv_at hl 0 rfl) ?_
            refine va_mmin hx hb (S.2.2.1.trans hl.1.symm) S.2.2.2.1 (S.2.2.2.2 _ (List.mem_cons_of_mem _ zm_854)) (S.2.2.2.2 _ (List.mem_cons_of_mem _ zm_522)) (S.2.2.2.2 _ (List.mem_cons_of_mem _ zm_85)) (S.2.2.2.2 _ (List.mem_cons_of_mem _ zm_523)) (Nat.le_of_ble_eq_true rfl) (by simp [zv_cat, zv_ci, zv_cj, zr_X4_spreadOf]) (Nat.le_refl 0) (Nat.le_refl 0) zd_X4_spreadOf_41 ?_
            exact k44h (if r2 < y3 then r2 else y3) _ _ _ hf hw (lv_sub hl [1, 2, 4, 5, 0] rfl)
          · replace hf := zo_t c4 hf
            refine lv_iload hx hb zd_X4_spreadOf_33 (lv_at hl 0 rfl) ?_
            refine lv_goto (tgt := 44) hx hb zd_X4_spreadOf_35 (by decide) ?_
            exact k44h r2 _ _ _ hf hw (lv_sub hl [1, 2, 4, 5, 0] rfl)
  unfold zf_X4_spreadOf at hf
  obtain ⟨-, hf⟩ := zo_n hf
  refine lv_iconst (v := (-1)) hx hb zd_X4_spreadOf_0 (by decide) ?_
  refine lv_istore_n (i := 3) (lv' := [(3, .int ((-1))), (0, va_rf ((some q))), (1, .int (x1)), (2, .int (x2))]) hx hb zd_X4_spreadOf_1 rfl hl (by decide) rfl (fun ls hl => ?_)
  refine lv_iconst (v := (-1)) hx hb zd_X4_spreadOf_2 (by decide) ?_
  refine lv_istore (i := 4) (lv' := [(4, .int ((-1))), (3, .int ((-1))), (0, va_rf ((some q))), (1, .int (x1)), (2, .int (x2))]) hx hb zd_X4_spreadOf_3 hl (by decide) rfl (fun ls hl => ?_)
  refine lv_iload_n hx hb zd_X4_spreadOf_5 rfl (lv_at hl 3 rfl) ?_
  refine lv_istore (i := 5) (lv' := [(5, .int (x1)), (4, .int ((-1))), (3, .int ((-1))), (0, va_rf ((some q))), (1, .int (x1)), (2, .int (x2))]) hx hb zd_X4_spreadOf_6 hl (by decide) rfl (fun ls hl => ?_)
  replace hf := zo_b hf; obtain ⟨w5, w5e, hf⟩ := hf
  refine L8 h x2 2000 (-1) (-1) x1 _ _ _ _ w5e hw (lv_sub hl [3, 5, 2, 1, 0] rfl) (fun H locs ls hw hl => ?_)
  refine lv_iload_n hx hb zd_X4_spreadOf_60 rfl (lv_at hl 0 rfl) ?_
  refine lv_iconst (v := (-1)) hx hb zd_X4_spreadOf_61 (by decide) ?_
  refine lv_icmp_ne (tgt := 69) hx hb zd_X4_spreadOf_62 (by decide) (fun c6 => ?_) (fun c6 => ?_)
  · replace hf := zo_f c6 hf
    refine lv_iload_n hx hb zd_X4_spreadOf_69 rfl (lv_at hl 0 rfl) ?_
    refine lv_iload hx hb zd_X4_spreadOf_70 (lv_at hl 1 rfl) ?_
    replace hf := zo_b hf; obtain ⟨r7, er7, hf⟩ := hf
    refine zw_callSN (n := 2) (As := [.int (w5.1), .int (w5.2)]) (rest := []) S hK hw (zt_X9_spanOf l g h w5.1 w5.2 _ er7) zm_856 zm_749 zq_X9_spanOf zm_68 (by decide +kernel) ⟨Nat.le_of_ble_eq_true rfl, Nat.le_of_ble_eq_true rfl⟩ rfl hl.1 rfl (by simp [zv_cat, zv_ci, zv_cj]) zd_X4_spreadOf_72 ⟨(Nat.le_refl 0), (Nat.le_refl 0)⟩ (fun H locs hw => ?_)
    replace hw : zc_W g h H locs := hw
    have hres := Option.some.inj hf; subst hres
    exact zw_iret (v := r7) (ty := .int) hx hb hr hlk rfl hw zd_X4_spreadOf_75 (Nat.le_refl 0) (Nat.le_refl 0)
  · replace hf := zo_t c6 hf
    refine lv_iconst (v := (-1)) hx hb zd_X4_spreadOf_65 (by decide) ?_
    refine lv_goto (tgt := 75) hx hb zd_X4_spreadOf_66 (by decide) ?_
    have hres := Option.some.inj hf; subst hres
    exact zw_iret (v := (-1)) (ty := .int) hx hb hr hlk rfl hw zd_X4_spreadOf_75 (Nat.le_refl 0) (Nat.le_refl 0)
def zf_X4_placedOf_L5 (h : zc_H) (q : Nat) (y2 : Int32) : Nat → Int32 → Int32 → Option (Int32)
  | 0, _, _ => none
  | n + 1, y3, y4 =>
    if y2 < y4 then
      some y3
    else
    (zf_X4_placeOf h q y4).bind fun r2 =>
    let k24 := fun (y24_3 : Int32) =>
      zf_X4_placedOf_L5 h q y2 n y24_3 (y4 + 1)
    if r2 = (-1) then
      k24 y3
    else
    k24 (y3 + 1)
def zf_X4_placedOf (h : zc_H) (q : Nat) (x1 : Int32) (x2 : Int32) : Option (Int32) :=
  if ¬ zf_is h q 4 = true then none else
  (zf_X4_placedOf_L5 h q x2 2000 0 x1).bind fun w4 =>
  some w4
abbrev zr_X4_placedOf : Room := { frames := 1, cells := 0, slots := 0, locals := 21 }
theorem zi_X4_placedOf {h : zc_H} {q : Nat} {x1 : Int32} {x2 : Int32} {res : Int32} (hf : zf_X4_placedOf h q x1 x2 = some res) : zf_is h q 4 = true := Decidable.not_not.mp (zo_n hf).1
set_option maxHeartbeats 4000000 in
set_option maxRecDepth 20000 in
theorem zt_X4_placedOf (l : Launch) (g : zc_G) (h : zc_H) (q : Nat) (x1 : Int32) (x2 : Int32) (res : Int32) (hf : zf_X4_placedOf h q x1 x2 = some res) : zc_M l g yX4_placedOf cX4_placedOf 5 (some .int) zr_X4_placedOf h [va_rf ((some q)), .int (x1), .int (x2)] h (some (.int (res))) := by
  refine zc_M.of (by decide) (by simp [lg_sl, zv_cat, zv_ci, zv_cj]) ?_
  intro p e s m below meth c ls S hK hw hr hlk hnm hl
  replace S : CallFix p m c cX4_placedOf 5 s [va_rf ((some q)), .int (x1), .int (x2)].toArray (zc_ws yX4_placedOf cX4_placedOf 5 (some .int)) RX4 := S
  have hx := S.1
  have hb := S.2.1
  replace hl : lv_has ls 5 [(0, va_rf ((some q))), (1, .int (x1)), (2, .int (x2))] := by simpa [lv_args, zv_cat, zv_ci, zv_cj] using hl
  generalize s.heap = H at hw ⊢
  obtain ⟨locs, hlocs⟩ : ∃ L : List Loc, L = [] := ⟨_, rfl⟩
  rw [← hlocs] at hw ⊢
  have L5 : ∀ (h : zc_H) (y2 : Int32) (n : Nat) (y3 : Int32) (y4 : Int32) (w : Int32) (H : Heap) (locs : List Loc) (ls : Array Slot), zf_X4_placedOf_L5 h q y2 n y3 y4 = some w → zc_W g h H locs → lv_has ls 5 [(0, va_rf ((some q))), (2, .int (y2)), (3, .int (y3)), (4, .int (y4))] → (∀ (H : Heap) (locs : List Loc) (ls : Array Slot), zc_W g h H locs → lv_has ls 5 [(3, .int (w))] → W p l e zr_X4_placedOf s m [va_rf ((some q)), .int (x1), .int (x2)].toArray below meth c H locs 0 0 (zc_Q g below zr_X4_placedOf (some (.int (res))) h [va_rf ((some q)), .int (x1), .int (x2)] s) (F0 m 30 ls [])) → W p l e zr_X4_placedOf s m [va_rf ((some q)), .int (x1), .int (x2)].toArray below meth c H locs 0 0 (zc_Q g below zr_X4_placedOf (some (.int (res))) h [va_rf ((some q)), .int (x1), .int (x2)] s) (F0 m 5 ls []) := by
    intro h y2 n
    induction n with
    | zero =>
      intro y3 y4 w H locs ls hf
      cases hf
    | succ n ih =>
      intro y3 y4 w H locs ls hf hw hl  kk
      unfold zf_X4_placedOf_L5 at hf
      refine lv_iload hx hb zd_X4_placedOf_5 (lv_at hl 3 rfl) ?_
      refine lv_iload_n hx hb zd_X4_placedOf_7 rfl (lv_at hl 1 rfl) ?_
      refine lv_icmp_gt (tgt := 30) hx hb zd_X4_placedOf_8 (by decide) (fun c1 => ?_) (fun c1 => ?_)
      · replace hf := zo_t c1 hf
        have hres := Option.some.inj hf; subst hres
        exact kk _ _ _ hw (lv_sub hl [2] rfl)
      · replace hf := zo_f c1 hf
        refine zl_aload_n hx hb zd_X4_placedOf_11 rfl (lv_at hl 0 rfl) ?_
        refine lv_iload hx hb zd_X4_placedOf_12 (lv_at hl 3 rfl) ?_
        replace hf := zo_b hf; obtain ⟨r2, er2, hf⟩ := hf
        refine zw_callV (n := 1) (ci := 4) (q := zc_cl[4]) (As := [.int (y4)]) (rest := []) S hK hw (zt_X4_placeOf l g h q y4 _ er2) zm_853 zm_731 zm_732 zq_X4_placeOf zm_84 (by decide +kernel) ⟨Nat.le_of_ble_eq_true rfl, Nat.le_of_ble_eq_true rfl⟩ rfl rfl rfl (zi_X4_placeOf er2) hl.1 rfl (by simp [zv_cat, zv_ci, zv_cj]) zd_X4_placedOf_14 ⟨(Nat.le_refl 0), (Nat.le_refl 0)⟩ (fun H locs hw => ?_)
        replace hw : zc_W g h H locs := hw
        refine lv_iconst (v := (-1)) hx hb zd_X4_placedOf_17 (by decide) ?_
        have k24h : ∀ (y24_3 : Int32) (H : Heap) (locs : List Loc) (ls : Array Slot), (
            zf_X4_placedOf_L5 h q y2 n y24_3 (y4 + 1)
            ) = some w → zc_W g h H locs → lv_has ls 5 [(0, va_rf ((some q))), (2, .int (y2)), (3, .int (y24_3)), (4, .int (y4))] → W p l e zr_X4_placedOf s m [va_rf ((some q)), .int (x1), .int (x2)].toArray below meth c H locs (0 + 0) (0 + 0) (zc_Q g below zr_X4_placedOf (some (.int (res))) h [va_rf ((some q)), .int (x1), .int (x2)] s) (F0 m 24 ls []) := by
          intro y24_3 H locs ls hf hw hl
          refine lv_iinc (i := 4) (v := (y4 + 1)) (lv' := [(4, .int ((y4 + 1))), (0, va_rf ((some q))), (2, .int (y2)), (3, .int (y24_3))]) hx hb zd_X4_placedOf_24 hl (k := 3) rfl (congrArg (_ + ·) (by decide)) (by decide) rfl (fun ls hl => ?_)
          refine lv_goto (tgt := 5) hx hb zd_X4_placedOf_27 (by decide) ?_
          exact ih y24_3 (y4 + 1) _ _ _ _ hf hw (lv_sub hl [1, 2, 3, 0] rfl) kk
        refine lv_icmp_eq (tgt := 24) hx hb zd_X4_placedOf_18 (by decide) (fun c3 => ?_) (fun c3 => ?_)
        · replace hf := zo_t c3 hf
          exact k24h y3 _ _ _ hf hw (lv_sub hl [0, 1, 2, 3] rfl)
        · replace hf := zo_f c3 hf
          refine lv_iinc (i := 3) (v := (y3 + 1)) (lv' := [(3, .int ((y3 + 1))), (0, va_rf ((some q))), (2, .int (y2)), (4, .int (y4))]) hx hb zd_X4_placedOf_21 hl (k := 2) rfl (congrArg (_ + ·) (by decide)) (by decide) rfl (fun ls hl => ?_)
          exact k24h (y3 + 1) _ _ _ hf hw (lv_sub hl [1, 2, 0, 3] rfl)
  unfold zf_X4_placedOf at hf
  obtain ⟨-, hf⟩ := zo_n hf
  refine lv_iconst (v := 0) hx hb zd_X4_placedOf_0 (by decide) ?_
  refine lv_istore_n (i := 3) (lv' := [(3, .int (0)), (0, va_rf ((some q))), (1, .int (x1)), (2, .int (x2))]) hx hb zd_X4_placedOf_1 rfl hl (by decide) rfl (fun ls hl => ?_)
  refine lv_iload_n hx hb zd_X4_placedOf_2 rfl (lv_at hl 2 rfl) ?_
  refine lv_istore (i := 4) (lv' := [(4, .int (x1)), (3, .int (0)), (0, va_rf ((some q))), (1, .int (x1)), (2, .int (x2))]) hx hb zd_X4_placedOf_3 hl (by decide) rfl (fun ls hl => ?_)
  replace hf := zo_b hf; obtain ⟨w4, w4e, hf⟩ := hf
  refine L5 h x2 2000 0 x1 _ _ _ _ w4e hw (lv_sub hl [2, 4, 1, 0] rfl) (fun H locs ls hw hl => ?_)
  refine lv_iload_n hx hb zd_X4_placedOf_30 rfl (lv_at hl 0 rfl) ?_
  have hres := Option.some.inj hf; subst hres
  exact zw_iret (v := w4) (ty := .int) hx hb hr hlk rfl hw zd_X4_placedOf_31 (Nat.le_refl 0) (Nat.le_refl 0)
def zf_X3_whole (h : zc_H) (x0 : Int32) (x1 : Int32) (x2 : Option Nat) (x3 : Int32) : Option (Int32) :=
  x2.bind fun a1 =>
  (zf_X4_placedOf h a1 x0 x1).bind fun r2 =>
  if ((x1 - x0) + 1) ≤ r2 then
    (zf_X4_spreadOf h a1 x0 x1).bind fun r4 =>
    (zf_X9_lengthOf h r4).bind fun r5 =>
    if r5 ≤ (((x1 - x0) + 1) + x3) then
      some r4
    else
    some (-1)
  else
  some (-1)
abbrev zr_X3_whole : Room := { frames := 2, cells := 0, slots := 0, locals := 66 }
set_option maxHeartbeats 4000000 in
set_option maxRecDepth 20000 in
theorem zt_X3_whole (l : Launch) (g : zc_G) (h : zc_H) (x0 : Int32) (x1 : Int32) (x2 : Option Nat) (x3 : Int32) (res : Int32) (hf : zf_X3_whole h x0 x1 x2 x3 = some res) : zc_M l g yX3_whole cX3_whole 6 (some .int) zr_X3_whole h [.int (x0), .int (x1), va_rf (x2), .int (x3)] h (some (.int (res))) := by
  refine zc_M.of (by decide) (by simp [lg_sl, zv_cat, zv_ci, zv_cj]) ?_
  intro p e s m below meth c ls S hK hw hr hlk hnm hl
  replace S : CallFix p m c cX3_whole 6 s [.int (x0), .int (x1), va_rf (x2), .int (x3)].toArray (zc_ws yX3_whole cX3_whole 6 (some .int)) RX3 := S
  have hx := S.1
  have hb := S.2.1
  replace hl : lv_has ls 6 [(0, .int (x0)), (1, .int (x1)), (2, va_rf (x2)), (3, .int (x3))] := by simpa [lv_args, zv_cat, zv_ci, zv_cj] using hl
  generalize s.heap = H at hw ⊢
  obtain ⟨locs, hlocs⟩ : ∃ L : List Loc, L = [] := ⟨_, rfl⟩
  rw [← hlocs] at hw ⊢
  unfold zf_X3_whole at hf
  refine lv_iload_n hx hb zd_X3_whole_0 rfl (lv_at hl 1 rfl) ?_
  refine lv_iload_n hx hb zd_X3_whole_1 rfl (lv_at hl 0 rfl) ?_
  refine lv_isub hx hb zd_X3_whole_2 ?_
  refine lv_iconst (v := 1) hx hb zd_X3_whole_3 (by decide) ?_
  refine lv_iadd hx hb zd_X3_whole_4 ?_
  refine lv_istore (i := 4) (lv' := [(4, .int (((x1 - x0) + 1))), (0, .int (x0)), (1, .int (x1)), (2, va_rf (x2)), (3, .int (x3))]) hx hb zd_X3_whole_5 hl (by decide) rfl (fun ls hl => ?_)
  refine zl_aload_n hx hb zd_X3_whole_7 rfl (lv_at hl 3 rfl) ?_
  refine lv_iload_n hx hb zd_X3_whole_8 rfl (lv_at hl 1 rfl) ?_
  refine lv_iload_n hx hb zd_X3_whole_9 rfl (lv_at hl 2 rfl) ?_
  replace hf := zo_b hf; obtain ⟨a1, na1, hf⟩ := hf
  refine W.eq (g2 := F0 m 10 ls [.int (x1), .int (x0), va_rf ((some a1))]) (by rw [na1] <;> rfl) ?_
  replace hf := zo_b hf; obtain ⟨r2, er2, hf⟩ := hf
  refine zw_callV (n := 2) (ci := 4) (q := zc_cl[4]) (As := [.int (x0), .int (x1)]) (rest := []) S hK hw (zt_X4_placedOf l g h a1 x0 x1 _ er2) zm_860 zm_861 zm_862 zq_X4_placedOf zm_84 (by decide +kernel) ⟨Nat.le_of_ble_eq_true rfl, Nat.le_of_ble_eq_true rfl⟩ rfl rfl rfl (zi_X4_placedOf er2) hl.1 rfl (by simp [zv_cat, zv_ci, zv_cj]) zd_X3_whole_10 ⟨(Nat.le_refl 0), (Nat.le_refl 0)⟩ (fun H locs hw => ?_)
  replace hw : zc_W g h H locs := hw
  refine lv_iload hx hb zd_X3_whole_13 (lv_at hl 0 rfl) ?_
  refine lv_icmp_ge (tgt := 20) hx hb zd_X3_whole_15 (by decide) (fun c3 => ?_) (fun c3 => ?_)
  · replace hf := zo_t c3 hf
    refine zl_aload_n hx hb zd_X3_whole_20 rfl (lv_at hl 3 rfl) ?_
    refine lv_iload_n hx hb zd_X3_whole_21 rfl (lv_at hl 1 rfl) ?_
    refine lv_iload_n hx hb zd_X3_whole_22 rfl (lv_at hl 2 rfl) ?_
    refine W.eq (g2 := F0 m 23 ls [.int (x1), .int (x0), va_rf ((some a1))]) (by rw [na1] <;> rfl) ?_
    replace hf := zo_b hf; obtain ⟨r4, er4, hf⟩ := hf
    refine zw_callV (n := 2) (ci := 4) (q := zc_cl[4]) (As := [.int (x0), .int (x1)]) (rest := []) S hK hw (zt_X4_spreadOf l g h a1 x0 x1 _ er4) zm_849 zm_850 zm_851 zq_X4_spreadOf zm_84 (by decide +kernel) ⟨Nat.le_of_ble_eq_true rfl, Nat.le_of_ble_eq_true rfl⟩ rfl rfl rfl (zi_X4_spreadOf er4) hl.1 rfl (by simp [zv_cat, zv_ci, zv_cj]) zd_X3_whole_23 ⟨(Nat.le_refl 0), (Nat.le_refl 0)⟩ (fun H locs hw => ?_)
    replace hw : zc_W g h H locs := hw
    refine lv_istore (i := 5) (lv' := [(5, .int (r4)), (4, .int (((x1 - x0) + 1))), (0, .int (x0)), (1, .int (x1)), (2, va_rf (x2)), (3, .int (x3))]) hx hb zd_X3_whole_26 hl (by decide) rfl (fun ls hl => ?_)
    refine lv_iload hx hb zd_X3_whole_28 (lv_at hl 0 rfl) ?_
    replace hf := zo_b hf; obtain ⟨r5, er5, hf⟩ := hf
    refine zw_callSN (n := 1) (As := [.int (r4)]) (rest := []) S hK hw (zt_X9_lengthOf l g h r4 _ er5) zm_467 zm_468 zq_X9_lengthOf zm_68 (by decide +kernel) ⟨Nat.le_of_ble_eq_true rfl, Nat.le_of_ble_eq_true rfl⟩ rfl hl.1 rfl (by simp [zv_cat, zv_ci, zv_cj]) zd_X3_whole_30 ⟨(Nat.le_refl 0), (Nat.le_refl 0)⟩ (fun H locs hw => ?_)
    replace hw : zc_W g h H locs := hw
    refine lv_iload hx hb zd_X3_whole_33 (lv_at hl 1 rfl) ?_
    refine lv_iload_n hx hb zd_X3_whole_35 rfl (lv_at hl 5 rfl) ?_
    refine lv_iadd hx hb zd_X3_whole_36 ?_
    refine lv_icmp_le (tgt := 44) hx hb zd_X3_whole_37 (by decide) (fun c6 => ?_) (fun c6 => ?_)
    · replace hf := zo_t c6 hf
      refine lv_iload hx hb zd_X3_whole_44 (lv_at hl 0 rfl) ?_
      have hres := Option.some.inj hf; subst hres
      exact zw_iret (v := r4) (ty := .int) hx hb hr hlk rfl hw zd_X3_whole_46 (Nat.le_refl 0) (Nat.le_refl 0)
    · replace hf := zo_f c6 hf
      refine lv_iconst (v := (-1)) hx hb zd_X3_whole_40 (by decide) ?_
      refine lv_goto (tgt := 46) hx hb zd_X3_whole_41 (by decide) ?_
      have hres := Option.some.inj hf; subst hres
      exact zw_iret (v := (-1)) (ty := .int) hx hb hr hlk rfl hw zd_X3_whole_46 (Nat.le_refl 0) (Nat.le_refl 0)
  · replace hf := zo_f c3 hf
    refine lv_iconst (v := (-1)) hx hb zd_X3_whole_18 (by decide) ?_
    have hres := Option.some.inj hf; subst hres
    exact zw_iret (v := (-1)) (ty := .int) hx hb hr hlk rfl hw zd_X3_whole_19 (Nat.le_refl 0) (Nat.le_refl 0)
def zf_X3_nearest_L2 (h : zc_H) (y1 : Option Nat) : Nat → Int32 → Option ((Unit) ⊕ (Int32))
  | 0, _ => none
  | n + 1, y2 =>
    if y2 < 0 then
      some (.inl ())
    else
    y1.bind fun a2 =>
    (zf_X4_placeOf h a2 y2).bind fun r3 =>
    if r3 = (-1) then
      zf_X3_nearest_L2 h y1 n (y2 + (-1))
    else
    some (.inr r3)
def zf_X3_nearest (h : zc_H) (x0 : Int32) (x1 : Option Nat) : Option (Int32) :=
  (zf_X3_nearest_L2 h x1 2000 x0).bind fun w5 =>
  Sum.elim (fun t6 =>
    some (-1)
    ) (fun t7 =>
    (zf_X9_spanOf h t7 t7).bind fun r8 =>
    some r8
    ) w5
abbrev zr_X3_nearest : Room := { frames := 1, cells := 0, slots := 0, locals := 21 }
set_option maxHeartbeats 4000000 in
set_option maxRecDepth 20000 in
theorem zt_X3_nearest (l : Launch) (g : zc_G) (h : zc_H) (x0 : Int32) (x1 : Option Nat) (res : Int32) (hf : zf_X3_nearest h x0 x1 = some res) : zc_M l g yX3_nearest cX3_nearest 4 (some .int) zr_X3_nearest h [.int (x0), va_rf (x1)] h (some (.int (res))) := by
  refine zc_M.of (by decide) (by simp [lg_sl, zv_cat, zv_ci, zv_cj]) ?_
  intro p e s m below meth c ls S hK hw hr hlk hnm hl
  replace S : CallFix p m c cX3_nearest 4 s [.int (x0), va_rf (x1)].toArray (zc_ws yX3_nearest cX3_nearest 4 (some .int)) RX3 := S
  have hx := S.1
  have hb := S.2.1
  replace hl : lv_has ls 4 [(0, .int (x0)), (1, va_rf (x1))] := by simpa [lv_args, zv_cat, zv_ci, zv_cj] using hl
  generalize s.heap = H at hw ⊢
  obtain ⟨locs, hlocs⟩ : ∃ L : List Loc, L = [] := ⟨_, rfl⟩
  rw [← hlocs] at hw ⊢
  have L2 : ∀ (h : zc_H) (y1 : Option Nat) (n : Nat) (y2 : Int32) (w : (Unit) ⊕ (Int32)) (H : Heap) (locs : List Loc) (ls : Array Slot), zf_X3_nearest_L2 h y1 n y2 = some w → zc_W g h H locs → lv_has ls 4 [(1, va_rf (y1)), (2, .int (y2))] → (∀ (t : Unit) (H : Heap) (locs : List Loc) (ls : Array Slot), w = (.inl t) → zc_W g h H locs → lv_has ls 4 [] → W p l e zr_X3_nearest s m [.int (x0), va_rf (x1)].toArray below meth c H locs 0 0 (zc_Q g below zr_X3_nearest (some (.int (res))) h [.int (x0), va_rf (x1)] s) (F0 m 29 ls [])) → (∀ (t : Int32) (H : Heap) (locs : List Loc) (ls : Array Slot), w = (.inr t) → zc_W g h H locs → lv_has ls 4 [(3, .int (t))] → W p l e zr_X3_nearest s m [.int (x0), va_rf (x1)].toArray below meth c H locs 0 0 (zc_Q g below zr_X3_nearest (some (.int (res))) h [.int (x0), va_rf (x1)] s) (F0 m 17 ls [])) → W p l e zr_X3_nearest s m [.int (x0), va_rf (x1)].toArray below meth c H locs 0 0 (zc_Q g below zr_X3_nearest (some (.int (res))) h [.int (x0), va_rf (x1)] s) (F0 m 2 ls []) := by
    intro h y1 n
    induction n with
    | zero =>
      intro y2 w H locs ls hf
      cases hf
    | succ n ih =>
      intro y2 w H locs ls hf hw hl  kk1 kk2
      unfold zf_X3_nearest_L2 at hf
      refine lv_iload_n hx hb zd_X3_nearest_2 rfl (lv_at hl 1 rfl) ?_
      refine lv_if_lt (tgt := 29) hx hb zd_X3_nearest_3 (by decide) (fun c1 => ?_) (fun c1 => ?_)
      · replace hf := zo_t c1 hf
        have hres := Option.some.inj hf; subst hres
        exact kk1 _ _ _ _ rfl hw (lv_sub hl [] rfl)
      · replace hf := zo_f c1 hf
        refine zl_aload_n hx hb zd_X3_nearest_6 rfl (lv_at hl 0 rfl) ?_
        refine lv_iload_n hx hb zd_X3_nearest_7 rfl (lv_at hl 1 rfl) ?_
        replace hf := zo_b hf; obtain ⟨a2, na2, hf⟩ := hf
        refine W.eq (g2 := F0 m 8 ls [.int (y2), va_rf ((some a2))]) (by rw [na2] <;> rfl) ?_
        replace hf := zo_b hf; obtain ⟨r3, er3, hf⟩ := hf
        refine zw_callV (n := 1) (ci := 4) (q := zc_cl[4]) (As := [.int (y2)]) (rest := []) S hK hw (zt_X4_placeOf l g h a2 y2 _ er3) zm_867 zm_731 zm_732 zq_X4_placeOf zm_84 (by decide +kernel) ⟨Nat.le_of_ble_eq_true rfl, Nat.le_of_ble_eq_true rfl⟩ rfl rfl rfl (zi_X4_placeOf er3) hl.1 rfl (by simp [zv_cat, zv_ci, zv_cj]) zd_X3_nearest_8 ⟨(Nat.le_refl 0), (Nat.le_refl 0)⟩ (fun H locs hw => ?_)
        replace hw : zc_W g h H locs := hw
        refine lv_istore_n (i := 3) (lv' := [(3, .int (r3)), (1, va_rf (y1)), (2, .int (y2))]) hx hb zd_X3_nearest_11 rfl hl (by decide) rfl (fun ls hl => ?_)
        refine lv_iload_n hx hb zd_X3_nearest_12 rfl (lv_at hl 0 rfl) ?_
        refine lv_iconst (v := (-1)) hx hb zd_X3_nearest_13 (by decide) ?_
        refine lv_icmp_eq (tgt := 23) hx hb zd_X3_nearest_14 (by decide) (fun c4 => ?_) (fun c4 => ?_)
        · replace hf := zo_t c4 hf
          refine lv_iinc (i := 2) (v := (y2 + (-1))) (lv' := [(2, .int ((y2 + (-1)))), (3, .int (r3)), (1, va_rf (y1))]) hx hb zd_X3_nearest_23 hl (k := 2) rfl (congrArg (_ + ·) (by decide)) (by decide) (by simp [List.filter, zv_cat, zv_ci, zv_cj]) (fun ls hl => ?_)
          refine lv_goto (tgt := 2) hx hb zd_X3_nearest_26 (by decide) ?_
          exact ih (y2 + (-1)) _ _ _ _ hf hw (lv_sub hl [2, 0] rfl) kk1 kk2
        · replace hf := zo_f c4 hf
          have hres := Option.some.inj hf; subst hres
          exact kk2 _ _ _ _ rfl hw (lv_sub hl [0] rfl)
  unfold zf_X3_nearest at hf
  refine lv_iload_n hx hb zd_X3_nearest_0 rfl (lv_at hl 0 rfl) ?_
  refine lv_istore_n (i := 2) (lv' := [(2, .int (x0)), (0, .int (x0)), (1, va_rf (x1))]) hx hb zd_X3_nearest_1 rfl hl (by decide) (by simp [List.filter, zv_cat, zv_ci, zv_cj]) (fun ls hl => ?_)
  replace hf := zo_b hf; obtain ⟨w5, w5e, hf⟩ := hf
  refine L2 h x1 2000 x0 _ _ _ _ w5e hw (lv_sub hl [2, 0] rfl) ?_ ?_
  · intro t6 H locs ls exw5 hw hl
    rw [exw5] at hf
    simp only [Sum.elim_inl, Sum.elim_inr] at hf
    refine lv_iconst (v := (-1)) hx hb zd_X3_nearest_29 (by decide) ?_
    have hres := Option.some.inj hf; subst hres
    exact zw_iret (v := (-1)) (ty := .int) hx hb hr hlk rfl hw zd_X3_nearest_30 (Nat.le_refl 0) (Nat.le_refl 0)
  · intro t7 H locs ls exw5 hw hl
    rw [exw5] at hf
    simp only [Sum.elim_inl, Sum.elim_inr] at hf
    refine lv_iload_n hx hb zd_X3_nearest_17 rfl (lv_at hl 0 rfl) ?_
    refine lv_iload_n hx hb zd_X3_nearest_18 rfl (lv_at hl 0 rfl) ?_
    replace hf := zo_b hf; obtain ⟨r8, er8, hf⟩ := hf
    refine zw_callSN (n := 2) (As := [.int (t7), .int (t7)]) (rest := []) S hK hw (zt_X9_spanOf l g h t7 t7 _ er8) zm_868 zm_749 zq_X9_spanOf zm_68 (by decide +kernel) ⟨Nat.le_of_ble_eq_true rfl, Nat.le_of_ble_eq_true rfl⟩ rfl hl.1 rfl (by simp [zv_cat, zv_ci, zv_cj]) zd_X3_nearest_19 ⟨(Nat.le_refl 0), (Nat.le_refl 0)⟩ (fun H locs hw => ?_)
    replace hw : zc_W g h H locs := hw
    have hres := Option.some.inj hf; subst hres
    exact zw_iret (v := r8) (ty := .int) hx hb hr hlk rfl hw zd_X3_nearest_22 (Nat.le_refl 0) (Nat.le_refl 0)
