def zf_X10_covered_L41 (h : zc_H) (q : Nat) (y1 : Int32) (y3 : Int32) : Nat → Int32 → Int32 → Option (Int32)
  | 0, _, _ => none
  | n + 1, y2, y4 =>
    (zf_gi h q 10 32).bind fun v10 =>
    if v10 < y4 then
      some y2
    else
    zf_X10_covered_L41 h q y1 y3 n (y2 ||| (1 <<< (y4 &&& 31))) (y4 + 1)
def zf_X10_covered_L18 (q : Nat) (y1 : Int32) : Nat → zc_H → Int32 → Int32 → Option (zc_H × Int32)
  | 0, _, _, _ => none
  | n + 1, h, y2, y3 =>
    (zf_gi h q 10 5).bind fun v3 =>
    if v3 ≤ y3 then
      some (h, y2)
    else
    (zf_X10_isPut h q y3 y1).bind fun r6 =>
    let k63 := fun (y63_2 : Int32) =>
      zf_X10_covered_L18 q y1 n r6.1 y63_2 (y3 + 1)
    if r6.2 = 0 then
      k63 y2
    else
    (zf_gi r6.1 q 10 31).bind fun v8 =>
    (zf_X10_covered_L41 r6.1 q y1 y3 2000 y2 v8).bind fun w13 =>
    k63 w13
def zf_X10_covered (h : zc_H) (q : Nat) (x1 : Int32) : Option (zc_H × Int32) :=
  if ¬ zf_is h q 10 = true then none else
  (zf_X10_isRevision h q x1).bind fun r1 =>
  if r1 = 0 then
    (zf_X10_no h q (-1)).bind fun r15 =>
    some (r15.1, r15.2)
  else
  (zf_X10_covered_L18 q x1 2000 h 0 0).bind fun w14 =>
  some (w14.1, w14.2)
abbrev zr_X10_covered : Room := { frames := 6, cells := 0, slots := 0, locals := 162 }
theorem zi_X10_covered {h : zc_H} {q : Nat} {x1 : Int32} {res : zc_H × Int32} (hf : zf_X10_covered h q x1 = some res) : zf_is h q 10 = true := Decidable.not_not.mp (zo_n hf).1
set_option maxHeartbeats 4000000 in
set_option maxRecDepth 20000 in
theorem zt_X10_covered (l : Launch) (g : zc_G) (h : zc_H) (q : Nat) (x1 : Int32) (res : zc_H × Int32) (hf : zf_X10_covered h q x1 = some res) : zc_M l g yX10_covered cX10_covered 5 (some .int) zr_X10_covered h [va_rf ((some q)), .int (x1)] res.1 (some (.int (res.2))) := by
  refine zc_M.of (by decide) (by simp [lg_sl, zv_cat, zv_ci, zv_cj]) ?_
  intro p e s m below meth c ls S hK hw hr hlk hnm hl
  replace S : CallFix p m c cX10_covered 5 s [va_rf ((some q)), .int (x1)].toArray (zc_ws yX10_covered cX10_covered 5 (some .int)) RX10 := S
  have hx := S.1
  have hb := S.2.1
  replace hl : lv_has ls 5 [(0, va_rf ((some q))), (1, .int (x1))] := by simpa [lv_args, zv_cat, zv_ci, zv_cj] using hl
  generalize s.heap = H at hw ⊢
  obtain ⟨locs, hlocs⟩ : ∃ L : List Loc, L = [] := ⟨_, rfl⟩
  rw [← hlocs] at hw ⊢
  have L41 : ∀ (h : zc_H) (y1 : Int32) (y3 : Int32) (n : Nat) (y2 : Int32) (y4 : Int32) (w : Int32) (H : Heap) (locs : List Loc) (ls : Array Slot), zf_X10_covered_L41 h q y1 y3 n y2 y4 = some w → zc_W g h H locs → lv_has ls 5 [(0, va_rf ((some q))), (1, .int (y1)), (2, .int (y2)), (3, .int (y3)), (4, .int (y4))] → (∀ (H : Heap) (locs : List Loc) (ls : Array Slot), zc_W g h H locs → lv_has ls 5 [(0, va_rf ((some q))), (1, .int (y1)), (2, .int (w)), (3, .int (y3))] → W p l e zr_X10_covered s m [va_rf ((some q)), .int (x1)].toArray below meth c H locs 0 0 (zc_Q g below zr_X10_covered (some (.int (res.2))) res.1 [va_rf ((some q)), .int (x1)] s) (F0 m 63 ls [])) → W p l e zr_X10_covered s m [va_rf ((some q)), .int (x1)].toArray below meth c H locs 0 0 (zc_Q g below zr_X10_covered (some (.int (res.2))) res.1 [va_rf ((some q)), .int (x1)] s) (F0 m 41 ls []) := by
    intro h y1 y3 n
    induction n with
    | zero =>
      intro y2 y4 w H locs ls hf
      cases hf
    | succ n ih =>
      intro y2 y4 w H locs ls hf hw hl  kk
      unfold zf_X10_covered_L41 at hf
      refine lv_iload hx hb zd_X10_covered_41 (lv_at hl 4 rfl) ?_
      refine zl_aload_n hx hb zd_X10_covered_43 rfl (lv_at hl 0 rfl) ?_
      replace hf := zo_b hf; obtain ⟨v10, ev10, hf⟩ := hf
      obtain ⟨u11, u11e, u11v⟩ := zo_b ev10
      obtain rfl := zv_i_e u11v
      refine zw_get S hK hw zk_10 (k := 32) (by decide) rfl zm_1120 (Or.inl rfl) u11e zd_X10_covered_44 ?_
      refine lv_icmp_gt (tgt := 63) hx hb zd_X10_covered_47 (by decide) (fun c12 => ?_) (fun c12 => ?_)
      · replace hf := zo_t c12 hf
        have hres := Option.some.inj hf; subst hres
        exact kk _ _ _ hw (lv_sub hl [0, 1, 2, 3] rfl)
      · replace hf := zo_f c12 hf
        refine lv_iload_n hx hb zd_X10_covered_50 rfl (lv_at hl 2 rfl) ?_
        refine lv_iconst (v := 1) hx hb zd_X10_covered_51 (by decide) ?_
        refine lv_iload hx hb zd_X10_covered_52 (lv_at hl 4 rfl) ?_
        refine lv_ishl hx hb zd_X10_covered_54 ?_
        refine lv_ior hx hb zd_X10_covered_55 ?_
        refine lv_istore_n (i := 2) (lv' := [(2, .int ((y2 ||| (1 <<< (y4 &&& 31))))), (0, va_rf ((some q))), (1, .int (y1)), (3, .int (y3)), (4, .int (y4))]) hx hb zd_X10_covered_56 rfl hl (by decide) rfl (fun ls hl => ?_)
        refine lv_iinc (i := 4) (v := (y4 + 1)) (lv' := [(4, .int ((y4 + 1))), (2, .int ((y2 ||| (1 <<< (y4 &&& 31))))), (0, va_rf ((some q))), (1, .int (y1)), (3, .int (y3))]) hx hb zd_X10_covered_57 hl (k := 4) rfl (congrArg (_ + ·) (by decide)) (by decide) rfl (fun ls hl => ?_)
        refine lv_goto (tgt := 41) hx hb zd_X10_covered_60 (by decide) ?_
        exact ih (y2 ||| (1 <<< (y4 &&& 31))) (y4 + 1) _ _ _ _ hf hw (lv_sub hl [2, 3, 1, 4, 0] rfl) kk
  have L18 : ∀ (y1 : Int32) (n : Nat) (h : zc_H) (y2 : Int32) (y3 : Int32) (w : zc_H × Int32) (H : Heap) (locs : List Loc) (ls : Array Slot), zf_X10_covered_L18 q y1 n h y2 y3 = some w → zc_W g h H locs → lv_has ls 5 [(0, va_rf ((some q))), (1, .int (y1)), (2, .int (y2)), (3, .int (y3))] → (∀ (H : Heap) (locs : List Loc) (ls : Array Slot), zc_W g w.1 H locs → lv_has ls 5 [(2, .int (w.2))] → W p l e zr_X10_covered s m [va_rf ((some q)), .int (x1)].toArray below meth c H locs 0 0 (zc_Q g below zr_X10_covered (some (.int (res.2))) res.1 [va_rf ((some q)), .int (x1)] s) (F0 m 69 ls [])) → W p l e zr_X10_covered s m [va_rf ((some q)), .int (x1)].toArray below meth c H locs 0 0 (zc_Q g below zr_X10_covered (some (.int (res.2))) res.1 [va_rf ((some q)), .int (x1)] s) (F0 m 18 ls []) := by
    intro y1 n
    induction n with
    | zero =>
      intro h y2 y3 w H locs ls hf
      cases hf
    | succ n ih =>
      intro h y2 y3 w H locs ls hf hw hl  kk
      unfold zf_X10_covered_L18 at hf
      refine lv_iload_n hx hb zd_X10_covered_18 rfl (lv_at hl 3 rfl) ?_
      refine zl_aload_n hx hb zd_X10_covered_19 rfl (lv_at hl 0 rfl) ?_
      replace hf := zo_b hf; obtain ⟨v3, ev3, hf⟩ := hf
      obtain ⟨u4, u4e, u4v⟩ := zo_b ev3
      obtain rfl := zv_i_e u4v
      refine zw_get S hK hw zk_10 (k := 5) (by decide) rfl zm_1093 (Or.inl rfl) u4e zd_X10_covered_20 ?_
      refine lv_icmp_ge (tgt := 69) hx hb zd_X10_covered_23 (by decide) (fun c5 => ?_) (fun c5 => ?_)
      · replace hf := zo_t c5 hf
        have hres := Option.some.inj hf; subst hres
        exact kk _ _ _ hw (lv_sub hl [2] rfl)
      · replace hf := zo_f c5 hf
        refine zl_aload_n hx hb zd_X10_covered_26 rfl (lv_at hl 0 rfl) ?_
        refine lv_iload_n hx hb zd_X10_covered_27 rfl (lv_at hl 3 rfl) ?_
        refine lv_iload_n hx hb zd_X10_covered_28 rfl (lv_at hl 1 rfl) ?_
        replace hf := zo_b hf; obtain ⟨r6, er6, hf⟩ := hf
        refine zw_callV (n := 2) (ci := 10) (q := zc_cl[10]) (As := [.int (y3), .int (y1)]) (rest := []) S hK hw (zt_X10_isPut l g h q y3 y1 _ er6) zm_1452 zm_1454 zm_56 zq_X10_isPut zm_79 (by decide +kernel) ⟨Nat.le_of_ble_eq_true rfl, Nat.le_of_ble_eq_true rfl⟩ rfl rfl rfl (zi_X10_isPut er6) hl.1 rfl (by simp [zv_cat, zv_ci, zv_cj]) zd_X10_covered_29 ⟨(Nat.le_refl 0), (Nat.le_refl 0)⟩ (fun H locs hw => ?_)
        replace hw : zc_W g r6.1 H locs := hw
        have k63h : ∀ (y63_2 : Int32) (H : Heap) (locs : List Loc) (ls : Array Slot), (
            zf_X10_covered_L18 q y1 n r6.1 y63_2 (y3 + 1)
            ) = some w → zc_W g r6.1 H locs → lv_has ls 5 [(0, va_rf ((some q))), (1, .int (y1)), (2, .int (y63_2)), (3, .int (y3))] → W p l e zr_X10_covered s m [va_rf ((some q)), .int (x1)].toArray below meth c H locs (0 + 0) (0 + 0) (zc_Q g below zr_X10_covered (some (.int (res.2))) res.1 [va_rf ((some q)), .int (x1)] s) (F0 m 63 ls []) := by
          intro y63_2 H locs ls hf hw hl
          refine lv_iinc (i := 3) (v := (y3 + 1)) (lv' := [(3, .int ((y3 + 1))), (0, va_rf ((some q))), (1, .int (y1)), (2, .int (y63_2))]) hx hb zd_X10_covered_63 hl (k := 3) rfl (congrArg (_ + ·) (by decide)) (by decide) rfl (fun ls hl => ?_)
          refine lv_goto (tgt := 18) hx hb zd_X10_covered_66 (by decide) ?_
          exact ih r6.1 y63_2 (y3 + 1) _ _ _ _ hf hw (lv_sub hl [1, 2, 3, 0] rfl) kk
        refine lv_if_eq (tgt := 63) hx hb zd_X10_covered_32 (by decide) (fun c7 => ?_) (fun c7 => ?_)
        · replace hf := zo_t c7 hf
          exact k63h y2 _ _ _ hf hw (lv_sub hl [0, 1, 2, 3] rfl)
        · replace hf := zo_f c7 hf
          refine zl_aload_n hx hb zd_X10_covered_35 rfl (lv_at hl 0 rfl) ?_
          replace hf := zo_b hf; obtain ⟨v8, ev8, hf⟩ := hf
          obtain ⟨u9, u9e, u9v⟩ := zo_b ev8
          obtain rfl := zv_i_e u9v
          refine zw_get S hK hw zk_10 (k := 31) (by decide) rfl zm_1119 (Or.inl rfl) u9e zd_X10_covered_36 ?_
          refine lv_istore (i := 4) (lv' := [(4, .int (v8)), (0, va_rf ((some q))), (1, .int (y1)), (2, .int (y2)), (3, .int (y3))]) hx hb zd_X10_covered_39 hl (by decide) rfl (fun ls hl => ?_)
          replace hf := zo_b hf; obtain ⟨w13, w13e, hf⟩ := hf
          refine L41 r6.1 y1 y3 2000 y2 v8 _ _ _ _ w13e hw (lv_sub hl [1, 2, 3, 4, 0] rfl) (fun H locs ls hw hl => ?_)
          exact k63h w13 _ _ _ hf hw (lv_sub hl [0, 1, 2, 3] rfl)
  unfold zf_X10_covered at hf
  obtain ⟨-, hf⟩ := zo_n hf
  refine zl_aload_n hx hb zd_X10_covered_0 rfl (lv_at hl 0 rfl) ?_
  refine lv_iload_n hx hb zd_X10_covered_1 rfl (lv_at hl 1 rfl) ?_
  replace hf := zo_b hf; obtain ⟨r1, er1, hf⟩ := hf
  refine zw_callV (n := 1) (ci := 10) (q := zc_cl[10]) (As := [.int (x1)]) (rest := []) S hK hw (zt_X10_isRevision l g h q x1 _ er1) zm_1273 zm_1275 zm_29 zq_X10_isRevision zm_79 (by decide +kernel) ⟨Nat.le_of_ble_eq_true rfl, Nat.le_of_ble_eq_true rfl⟩ rfl rfl rfl (zi_X10_isRevision er1) hl.1 rfl (by simp [zv_cat, zv_ci, zv_cj]) zd_X10_covered_2 ⟨(Nat.le_refl 0), (Nat.le_refl 0)⟩ (fun H locs hw => ?_)
  replace hw : zc_W g h H locs := hw
  refine lv_if_ne (tgt := 14) hx hb zd_X10_covered_5 (by decide) (fun c2 => ?_) (fun c2 => ?_)
  · replace hf := zo_f c2 hf
    refine lv_iconst (v := 0) hx hb zd_X10_covered_14 (by decide) ?_
    refine lv_istore_n (i := 2) (lv' := [(2, .int (0)), (0, va_rf ((some q))), (1, .int (x1))]) hx hb zd_X10_covered_15 rfl hl (by decide) rfl (fun ls hl => ?_)
    refine lv_iconst (v := 0) hx hb zd_X10_covered_16 (by decide) ?_
    refine lv_istore_n (i := 3) (lv' := [(3, .int (0)), (2, .int (0)), (0, va_rf ((some q))), (1, .int (x1))]) hx hb zd_X10_covered_17 rfl hl (by decide) rfl (fun ls hl => ?_)
    replace hf := zo_b hf; obtain ⟨w14, w14e, hf⟩ := hf
    refine L18 x1 2000 h 0 0 _ _ _ _ w14e hw (lv_sub hl [2, 3, 1, 0] rfl) (fun H locs ls hw hl => ?_)
    refine lv_iload_n hx hb zd_X10_covered_69 rfl (lv_at hl 0 rfl) ?_
    have hres := Option.some.inj hf; subst hres
    exact zw_iret (v := w14.2) (ty := .int) hx hb hr hlk rfl hw zd_X10_covered_70 (Nat.le_refl 0) (Nat.le_refl 0)
  · replace hf := zo_t c2 hf
    refine zl_aload_n hx hb zd_X10_covered_8 rfl (lv_at hl 0 rfl) ?_
    refine lv_iconst (v := (-1)) hx hb zd_X10_covered_9 (by decide) ?_
    replace hf := zo_b hf; obtain ⟨r15, er15, hf⟩ := hf
    refine zw_callV (n := 1) (ci := 10) (q := zc_cl[10]) (As := [.int ((-1))]) (rest := []) S hK hw (zt_X10_no l g h q (-1) _ er15) zm_1219 zm_1221 zm_24 zq_X10_no zm_79 (by decide +kernel) ⟨Nat.le_of_ble_eq_true rfl, Nat.le_of_ble_eq_true rfl⟩ rfl rfl rfl (zi_X10_no er15) hl.1 rfl (by simp [zv_cat, zv_ci, zv_cj]) zd_X10_covered_10 ⟨(Nat.le_refl 0), (Nat.le_refl 0)⟩ (fun H locs hw => ?_)
    replace hw : zc_W g r15.1 H locs := hw
    have hres := Option.some.inj hf; subst hres
    exact zw_iret (v := r15.2) (ty := .int) hx hb hr hlk rfl hw zd_X10_covered_13 (Nat.le_refl 0) (Nat.le_refl 0)
def zf_X10_judge_L94 (q : Nat) (y1 : Int32) (y2 : Int32) (y3 : Int32) (y5 : Int32) : Nat → zc_H → Int32 → Option (zc_H × ((Unit) ⊕ (Int32)))
  | 0, _, _ => none
  | n + 1, h, y6 =>
    if y5 < y6 then
      some (h, (.inl ()))
    else
    (zf_X10_of h q 0 y2).bind fun r18 =>
    (zf_X10_puts h q y2 r18 y3 (y5 - y6)).bind fun r19 =>
    (zf_X10_read r19.1 q y1 y6).bind fun r20 =>
    (zf_gi r19.1 q 10 31).bind fun v21 =>
    if r20 = v21 then
      zf_X10_judge_L94 q y1 y2 y3 y5 n r19.1 (y6 + 1)
    else
    some (r19.1, (.inr y6))
def zf_X10_judge (h : zc_H) (q : Nat) (x1 : Int32) (x2 : Int32) (x3 : Int32) : Option (zc_H × Int32) :=
  if ¬ zf_is h q 10 = true then none else
  (zf_X10_noRow h q x1).bind fun r1 =>
  let k29 := fun (_ : Unit) =>
    (zf_X10_no10 h q (-1)).bind fun r3 =>
    some (r3.1, r3.2)
  if r1 = (-1) then
    k29 ()
  else
  (zf_X10_isRemark h q x2).bind fun r4 =>
  if r4 = 0 then
    k29 ()
  else
  (zf_X10_isRevision h q x3).bind fun r6 =>
  if r6 = 0 then
    k29 ()
  else
  if 0 ≤ r1 then
    (zf_X10_of h q 2 x2).bind fun r9 =>
    (zf_X10_behind h q x3 r9).bind fun r10 =>
    if r10.2 = (-1) then
      (zf_X10_no10 r10.1 q (-6)).bind fun r28 =>
      some (r28.1, r28.2)
    else
    (zf_gr r10.1 q 10 10).bind fun v12 =>
    v12.bind fun a14 =>
    (zf_ai r10.1 a14 0 x1).bind fun v15 =>
    if r10.2 < v15 then
      (zf_X10_judge_L94 q x1 x2 x3 r10.2 2000 r10.1 0).bind fun w24 =>
      Sum.elim (fun t25 =>
        some (w24.1, (-1))
        ) (fun t26 =>
        some (w24.1, t26)
        ) w24.2
    else
    (zf_X10_no10 r10.1 q (-5)).bind fun r27 =>
    some (r27.1, r27.2)
  else
  (zf_X10_no10 h q r1).bind fun r29 =>
  some (r29.1, r29.2)
abbrev zr_X10_judge : Room := { frames := 5, cells := 0, slots := 0, locals := 140 }
theorem zi_X10_judge {h : zc_H} {q : Nat} {x1 : Int32} {x2 : Int32} {x3 : Int32} {res : zc_H × Int32} (hf : zf_X10_judge h q x1 x2 x3 = some res) : zf_is h q 10 = true := Decidable.not_not.mp (zo_n hf).1
set_option maxHeartbeats 4000000 in
set_option maxRecDepth 20000 in
theorem zt_X10_judge (l : Launch) (g : zc_G) (h : zc_H) (q : Nat) (x1 : Int32) (x2 : Int32) (x3 : Int32) (res : zc_H × Int32) (hf : zf_X10_judge h q x1 x2 x3 = some res) : zc_M l g yX10_judge cX10_judge 7 (some .int) zr_X10_judge h [va_rf ((some q)), .int (x1), .int (x2), .int (x3)] res.1 (some (.int (res.2))) := by
  refine zc_M.of (by decide) (by simp [lg_sl, zv_cat, zv_ci, zv_cj]) ?_
  intro p e s m below meth c ls S hK hw hr hlk hnm hl
  replace S : CallFix p m c cX10_judge 7 s [va_rf ((some q)), .int (x1), .int (x2), .int (x3)].toArray (zc_ws yX10_judge cX10_judge 7 (some .int)) RX10 := S
  have hx := S.1
  have hb := S.2.1
  replace hl : lv_has ls 7 [(0, va_rf ((some q))), (1, .int (x1)), (2, .int (x2)), (3, .int (x3))] := by simpa [lv_args, zv_cat, zv_ci, zv_cj] using hl
  generalize s.heap = H at hw ⊢
  obtain ⟨locs, hlocs⟩ : ∃ L : List Loc, L = [] := ⟨_, rfl⟩
  rw [← hlocs] at hw ⊢
  have L94 : ∀ (y1 : Int32) (y2 : Int32) (y3 : Int32) (y5 : Int32) (n : Nat) (h : zc_H) (y6 : Int32) (w : zc_H × ((Unit) ⊕ (Int32))) (H : Heap) (locs : List Loc) (ls : Array Slot), zf_X10_judge_L94 q y1 y2 y3 y5 n h y6 = some w → zc_W g h H locs → lv_has ls 7 [(0, va_rf ((some q))), (1, .int (y1)), (2, .int (y2)), (3, .int (y3)), (5, .int (y5)), (6, .int (y6))] → (∀ (t : Unit) (H : Heap) (locs : List Loc) (ls : Array Slot), w.2 = (.inl t) → zc_W g w.1 H locs → lv_has ls 7 [] → W p l e zr_X10_judge s m [va_rf ((some q)), .int (x1), .int (x2), .int (x3)].toArray below meth c H locs 0 0 (zc_Q g below zr_X10_judge (some (.int (res.2))) res.1 [va_rf ((some q)), .int (x1), .int (x2), .int (x3)] s) (F0 m 142 ls [])) → (∀ (t : Int32) (H : Heap) (locs : List Loc) (ls : Array Slot), w.2 = (.inr t) → zc_W g w.1 H locs → lv_has ls 7 [(6, .int (t))] → W p l e zr_X10_judge s m [va_rf ((some q)), .int (x1), .int (x2), .int (x3)].toArray below meth c H locs 0 0 (zc_Q g below zr_X10_judge (some (.int (res.2))) res.1 [va_rf ((some q)), .int (x1), .int (x2), .int (x3)] s) (F0 m 133 ls [])) → W p l e zr_X10_judge s m [va_rf ((some q)), .int (x1), .int (x2), .int (x3)].toArray below meth c H locs 0 0 (zc_Q g below zr_X10_judge (some (.int (res.2))) res.1 [va_rf ((some q)), .int (x1), .int (x2), .int (x3)] s) (F0 m 94 ls []) := by
    intro y1 y2 y3 y5 n
    induction n with
    | zero =>
      intro h y6 w H locs ls hf
      cases hf
    | succ n ih =>
      intro h y6 w H locs ls hf hw hl  kk1 kk2
      unfold zf_X10_judge_L94 at hf
      refine lv_iload hx hb zd_X10_judge_94 (lv_at hl 5 rfl) ?_
      refine lv_iload hx hb zd_X10_judge_96 (lv_at hl 4 rfl) ?_
      refine lv_icmp_gt (tgt := 142) hx hb zd_X10_judge_98 (by decide) (fun c17 => ?_) (fun c17 => ?_)
      · replace hf := zo_t c17 hf
        have hres := Option.some.inj hf; subst hres
        exact kk1 _ _ _ _ rfl hw (lv_sub hl [] rfl)
      · replace hf := zo_f c17 hf
        refine zl_aload_n hx hb zd_X10_judge_101 rfl (lv_at hl 0 rfl) ?_
        refine lv_iload_n hx hb zd_X10_judge_102 rfl (lv_at hl 2 rfl) ?_
        refine zl_aload_n hx hb zd_X10_judge_103 rfl (lv_at hl 0 rfl) ?_
        refine lv_iconst (v := 0) hx hb zd_X10_judge_104 (by decide) ?_
        refine lv_iload_n hx hb zd_X10_judge_105 rfl (lv_at hl 2 rfl) ?_
        replace hf := zo_b hf; obtain ⟨r18, er18, hf⟩ := hf
        refine zw_callV (n := 2) (ci := 10) (q := zc_cl[10]) (As := [.int (0), .int (y2)]) (rest := [.int (y2), va_rf ((some q))]) S hK hw (zt_X10_of l g h q 0 y2 _ er18) zm_1259 zm_1261 zm_28 zq_X10_of zm_79 (by decide +kernel) ⟨Nat.le_of_ble_eq_true rfl, Nat.le_of_ble_eq_true rfl⟩ rfl rfl rfl (zi_X10_of er18) hl.1 rfl (by simp [zv_cat, zv_ci, zv_cj]) zd_X10_judge_106 ⟨(Nat.le_refl 0), (Nat.le_refl 0)⟩ (fun H locs hw => ?_)
        replace hw : zc_W g h H locs := hw
        refine lv_iload_n hx hb zd_X10_judge_109 rfl (lv_at hl 3 rfl) ?_
        refine lv_iload hx hb zd_X10_judge_110 (lv_at hl 4 rfl) ?_
        refine lv_iload hx hb zd_X10_judge_112 (lv_at hl 5 rfl) ?_
        refine lv_isub hx hb zd_X10_judge_114 ?_
        replace hf := zo_b hf; obtain ⟨r19, er19, hf⟩ := hf
        refine zw_callV (n := 4) (ci := 10) (q := zc_cl[10]) (As := [.int (y2), .int (r18), .int (y3), .int ((y5 - y6))]) (rest := []) S hK hw (zt_X10_puts l g h q y2 r18 y3 (y5 - y6) _ er19) zm_1403 zm_1405 zm_48 zq_X10_puts zm_79 (by decide +kernel) ⟨Nat.le_of_ble_eq_true rfl, Nat.le_of_ble_eq_true rfl⟩ rfl rfl rfl (zi_X10_puts er19) hl.1 rfl (by simp [zv_cat, zv_ci, zv_cj]) zd_X10_judge_115 ⟨(Nat.le_refl 0), (Nat.le_refl 0)⟩ (fun H locs hw => ?_)
        replace hw : zc_W g r19.1 H locs := hw
        refine lv_pop hx hb zd_X10_judge_118 rfl ?_
        refine zl_aload_n hx hb zd_X10_judge_119 rfl (lv_at hl 0 rfl) ?_
        refine lv_iload_n hx hb zd_X10_judge_120 rfl (lv_at hl 1 rfl) ?_
        refine lv_iload hx hb zd_X10_judge_121 (lv_at hl 5 rfl) ?_
        replace hf := zo_b hf; obtain ⟨r20, er20, hf⟩ := hf
        refine zw_callV (n := 2) (ci := 10) (q := zc_cl[10]) (As := [.int (y1), .int (y6)]) (rest := []) S hK hw (zt_X10_read l g r19.1 q y1 y6 _ er20) zm_1281 zm_1283 zm_31 zq_X10_read zm_79 (by decide +kernel) ⟨Nat.le_of_ble_eq_true rfl, Nat.le_of_ble_eq_true rfl⟩ rfl rfl rfl (zi_X10_read er20) hl.1 rfl (by simp [zv_cat, zv_ci, zv_cj]) zd_X10_judge_123 ⟨(Nat.le_refl 0), (Nat.le_refl 0)⟩ (fun H locs hw => ?_)
        replace hw : zc_W g r19.1 H locs := hw
        refine zl_aload_n hx hb zd_X10_judge_126 rfl (lv_at hl 0 rfl) ?_
        replace hf := zo_b hf; obtain ⟨v21, ev21, hf⟩ := hf
        obtain ⟨u22, u22e, u22v⟩ := zo_b ev21
        obtain rfl := zv_i_e u22v
        refine zw_get S hK hw zk_10 (k := 31) (by decide) rfl zm_1119 (Or.inl rfl) u22e zd_X10_judge_127 ?_
        refine lv_icmp_eq (tgt := 136) hx hb zd_X10_judge_130 (by decide) (fun c23 => ?_) (fun c23 => ?_)
        · replace hf := zo_t c23 hf
          refine lv_iinc (i := 6) (v := (y6 + 1)) (lv' := [(6, .int ((y6 + 1))), (0, va_rf ((some q))), (1, .int (y1)), (2, .int (y2)), (3, .int (y3)), (5, .int (y5))]) hx hb zd_X10_judge_136 hl (k := 5) rfl (congrArg (_ + ·) (by decide)) (by decide) rfl (fun ls hl => ?_)
          refine lv_goto (tgt := 94) hx hb zd_X10_judge_139 (by decide) ?_
          exact ih r19.1 (y6 + 1) _ _ _ _ hf hw (lv_sub hl [1, 2, 3, 4, 5, 0] rfl) kk1 kk2
        · replace hf := zo_f c23 hf
          have hres := Option.some.inj hf; subst hres
          exact kk2 _ _ _ _ rfl hw (lv_sub hl [5] rfl)
  unfold zf_X10_judge at hf
  obtain ⟨-, hf⟩ := zo_n hf
  refine zl_aload_n hx hb zd_X10_judge_0 rfl (lv_at hl 0 rfl) ?_
  refine lv_iload_n hx hb zd_X10_judge_1 rfl (lv_at hl 1 rfl) ?_
  replace hf := zo_b hf; obtain ⟨r1, er1, hf⟩ := hf
  refine zw_callV (n := 1) (ci := 10) (q := zc_cl[10]) (As := [.int (x1)]) (rest := []) S hK hw (zt_X10_noRow l g h q x1 _ er1) zm_1227 zm_1229 zm_25 zq_X10_noRow zm_79 (by decide +kernel) ⟨Nat.le_of_ble_eq_true rfl, Nat.le_of_ble_eq_true rfl⟩ rfl rfl rfl (zi_X10_noRow er1) hl.1 rfl (by simp [zv_cat, zv_ci, zv_cj]) zd_X10_judge_2 ⟨(Nat.le_refl 0), (Nat.le_refl 0)⟩ (fun H locs hw => ?_)
  replace hw : zc_W g h H locs := hw
  refine lv_istore (i := 4) (lv' := [(4, .int (r1)), (0, va_rf ((some q))), (1, .int (x1)), (2, .int (x2)), (3, .int (x3))]) hx hb zd_X10_judge_5 hl (by decide) rfl (fun ls hl => ?_)
  refine lv_iload hx hb zd_X10_judge_7 (lv_at hl 0 rfl) ?_
  refine lv_iconst (v := (-1)) hx hb zd_X10_judge_9 (by decide) ?_
  have k29h : ∀ (_ : Unit) (H : Heap) (locs : List Loc) (ls : Array Slot), (
      (zf_X10_no10 h q (-1)).bind fun r3 =>
      some (r3.1, r3.2)
      ) = some res → zc_W g h H locs → lv_has ls 7 [(0, va_rf ((some q)))] → W p l e zr_X10_judge s m [va_rf ((some q)), .int (x1), .int (x2), .int (x3)].toArray below meth c H locs (0 + 0) (0 + 0) (zc_Q g below zr_X10_judge (some (.int (res.2))) res.1 [va_rf ((some q)), .int (x1), .int (x2), .int (x3)] s) (F0 m 29 ls []) := by
    intro _ H locs ls hf hw hl
    refine zl_aload_n hx hb zd_X10_judge_29 rfl (lv_at hl 0 rfl) ?_
    refine lv_iconst (v := (-1)) hx hb zd_X10_judge_30 (by decide) ?_
    replace hf := zo_b hf; obtain ⟨r3, er3, hf⟩ := hf
    refine zw_callV (n := 1) (ci := 10) (q := zc_cl[10]) (As := [.int ((-1))]) (rest := []) S hK hw (zt_X10_no10 l g h q (-1) _ er3) zm_1335 zm_1337 zm_40 zq_X10_no10 zm_79 (by decide +kernel) ⟨Nat.le_of_ble_eq_true rfl, Nat.le_of_ble_eq_true rfl⟩ rfl rfl rfl (zi_X10_no10 er3) hl.1 rfl (by simp [zv_cat, zv_ci, zv_cj]) zd_X10_judge_31 ⟨(Nat.le_refl 0), (Nat.le_refl 0)⟩ (fun H locs hw => ?_)
    replace hw : zc_W g r3.1 H locs := hw
    have hres := Option.some.inj hf; subst hres
    exact zw_iret (v := r3.2) (ty := .int) hx hb hr hlk rfl hw zd_X10_judge_34 (Nat.le_refl 0) (Nat.le_refl 0)
  refine lv_icmp_eq (tgt := 29) hx hb zd_X10_judge_10 (by decide) (fun c2 => ?_) (fun c2 => ?_)
  · replace hf := zo_t c2 hf
    exact k29h () _ _ _ hf hw (lv_sub hl [1] rfl)
  · replace hf := zo_f c2 hf
    refine zl_aload_n hx hb zd_X10_judge_13 rfl (lv_at hl 1 rfl) ?_
    refine lv_iload_n hx hb zd_X10_judge_14 rfl (lv_at hl 3 rfl) ?_
    replace hf := zo_b hf; obtain ⟨r4, er4, hf⟩ := hf
    refine zw_callV (n := 1) (ci := 10) (q := zc_cl[10]) (As := [.int (x2)]) (rest := []) S hK hw (zt_X10_isRemark l g h q x2 _ er4) zm_1247 zm_1249 zm_27 zq_X10_isRemark zm_79 (by decide +kernel) ⟨Nat.le_of_ble_eq_true rfl, Nat.le_of_ble_eq_true rfl⟩ rfl rfl rfl (zi_X10_isRemark er4) hl.1 rfl (by simp [zv_cat, zv_ci, zv_cj]) zd_X10_judge_15 ⟨(Nat.le_refl 0), (Nat.le_refl 0)⟩ (fun H locs hw => ?_)
    replace hw : zc_W g h H locs := hw
    refine lv_if_eq (tgt := 29) hx hb zd_X10_judge_18 (by decide) (fun c5 => ?_) (fun c5 => ?_)
    · replace hf := zo_t c5 hf
      exact k29h () _ _ _ hf hw (lv_sub hl [1] rfl)
    · replace hf := zo_f c5 hf
      refine zl_aload_n hx hb zd_X10_judge_21 rfl (lv_at hl 1 rfl) ?_
      refine lv_iload_n hx hb zd_X10_judge_22 rfl (lv_at hl 4 rfl) ?_
      replace hf := zo_b hf; obtain ⟨r6, er6, hf⟩ := hf
      refine zw_callV (n := 1) (ci := 10) (q := zc_cl[10]) (As := [.int (x3)]) (rest := []) S hK hw (zt_X10_isRevision l g h q x3 _ er6) zm_1273 zm_1275 zm_29 zq_X10_isRevision zm_79 (by decide +kernel) ⟨Nat.le_of_ble_eq_true rfl, Nat.le_of_ble_eq_true rfl⟩ rfl rfl rfl (zi_X10_isRevision er6) hl.1 rfl (by simp [zv_cat, zv_ci, zv_cj]) zd_X10_judge_23 ⟨(Nat.le_refl 0), (Nat.le_refl 0)⟩ (fun H locs hw => ?_)
      replace hw : zc_W g h H locs := hw
      refine lv_if_ne (tgt := 35) hx hb zd_X10_judge_26 (by decide) (fun c7 => ?_) (fun c7 => ?_)
      · replace hf := zo_f c7 hf
        refine lv_iload hx hb zd_X10_judge_35 (lv_at hl 0 rfl) ?_
        refine lv_if_ge (tgt := 47) hx hb zd_X10_judge_37 (by decide) (fun c8 => ?_) (fun c8 => ?_)
        · replace hf := zo_t c8 hf
          refine zl_aload_n hx hb zd_X10_judge_47 rfl (lv_at hl 1 rfl) ?_
          refine lv_iload_n hx hb zd_X10_judge_48 rfl (lv_at hl 4 rfl) ?_
          refine zl_aload_n hx hb zd_X10_judge_49 rfl (lv_at hl 1 rfl) ?_
          refine lv_iconst (v := 2) hx hb zd_X10_judge_50 (by decide) ?_
          refine lv_iload_n hx hb zd_X10_judge_51 rfl (lv_at hl 3 rfl) ?_
          replace hf := zo_b hf; obtain ⟨r9, er9, hf⟩ := hf
          refine zw_callV (n := 2) (ci := 10) (q := zc_cl[10]) (As := [.int (2), .int (x2)]) (rest := [.int (x3), va_rf ((some q))]) S hK hw (zt_X10_of l g h q 2 x2 _ er9) zm_1259 zm_1261 zm_28 zq_X10_of zm_79 (by decide +kernel) ⟨Nat.le_of_ble_eq_true rfl, Nat.le_of_ble_eq_true rfl⟩ rfl rfl rfl (zi_X10_of er9) hl.1 rfl (by simp [zv_cat, zv_ci, zv_cj]) zd_X10_judge_52 ⟨(Nat.le_refl 0), (Nat.le_refl 0)⟩ (fun H locs hw => ?_)
          replace hw : zc_W g h H locs := hw
          replace hf := zo_b hf; obtain ⟨r10, er10, hf⟩ := hf
          refine zw_callV (n := 2) (ci := 10) (q := zc_cl[10]) (As := [.int (x3), .int (r9)]) (rest := []) S hK hw (zt_X10_behind l g h q x3 r9 _ er10) zm_1355 zm_1357 zm_41 zq_X10_behind zm_79 (by decide +kernel) ⟨Nat.le_of_ble_eq_true rfl, Nat.le_of_ble_eq_true rfl⟩ rfl rfl rfl (zi_X10_behind er10) hl.1 rfl (by simp [zv_cat, zv_ci, zv_cj]) zd_X10_judge_55 ⟨(Nat.le_refl 0), (Nat.le_refl 0)⟩ (fun H locs hw => ?_)
          replace hw : zc_W g r10.1 H locs := hw
          refine lv_istore (i := 5) (lv' := [(5, .int (r10.2)), (4, .int (r1)), (0, va_rf ((some q))), (1, .int (x1)), (2, .int (x2)), (3, .int (x3))]) hx hb zd_X10_judge_58 hl (by decide) rfl (fun ls hl => ?_)
          refine lv_iload hx hb zd_X10_judge_60 (lv_at hl 0 rfl) ?_
          refine lv_iconst (v := (-1)) hx hb zd_X10_judge_62 (by decide) ?_
          refine lv_icmp_ne (tgt := 73) hx hb zd_X10_judge_63 (by decide) (fun c11 => ?_) (fun c11 => ?_)
          · replace hf := zo_f c11 hf
            refine zl_aload_n hx hb zd_X10_judge_73 rfl (lv_at hl 2 rfl) ?_
            replace hf := zo_b hf; obtain ⟨v12, ev12, hf⟩ := hf
            obtain ⟨u13, u13e, u13v⟩ := zo_b ev12
            obtain rfl := zv_r_e u13v
            refine zw_get S hK hw zk_10 (k := 10) (by decide) rfl zm_1098 (Or.inl rfl) u13e zd_X10_judge_74 ?_
            refine lv_iload_n hx hb zd_X10_judge_77 rfl (lv_at hl 3 rfl) ?_
            replace hf := zo_b hf; obtain ⟨a14, na14, hf⟩ := hf
            refine W.eq (g2 := F0 m 78 ls [.int (x1), va_rf ((some a14))]) (by rw [na14] <;> rfl) ?_
            replace hf := zo_b hf; obtain ⟨v15, ev15, hf⟩ := hf
            refine zw_iald S hK hw ev15 zd_X10_judge_78 ?_
            refine lv_iload hx hb zd_X10_judge_79 (lv_at hl 0 rfl) ?_
            refine lv_icmp_gt (tgt := 91) hx hb zd_X10_judge_81 (by decide) (fun c16 => ?_) (fun c16 => ?_)
            · replace hf := zo_t c16 hf
              refine lv_iconst (v := 0) hx hb zd_X10_judge_91 (by decide) ?_
              refine lv_istore (i := 6) (lv' := [(6, .int (0)), (5, .int (r10.2)), (4, .int (r1)), (0, va_rf ((some q))), (1, .int (x1)), (2, .int (x2)), (3, .int (x3))]) hx hb zd_X10_judge_92 hl (by decide) rfl (fun ls hl => ?_)
              replace hf := zo_b hf; obtain ⟨w24, w24e, hf⟩ := hf
              refine L94 x1 x2 x3 r10.2 2000 r10.1 0 _ _ _ _ w24e hw (lv_sub hl [3, 4, 5, 6, 1, 0] rfl) ?_ ?_
              · intro t25 H locs ls exw24 hw hl
                rw [exw24] at hf
                simp only [Sum.elim_inl, Sum.elim_inr] at hf
                refine lv_iconst (v := (-1)) hx hb zd_X10_judge_142 (by decide) ?_
                have hres := Option.some.inj hf; subst hres
                exact zw_iret (v := (-1)) (ty := .int) hx hb hr hlk rfl hw zd_X10_judge_143 (Nat.le_refl 0) (Nat.le_refl 0)
              · intro t26 H locs ls exw24 hw hl
                rw [exw24] at hf
                simp only [Sum.elim_inl, Sum.elim_inr] at hf
                refine lv_iload hx hb zd_X10_judge_133 (lv_at hl 0 rfl) ?_
                have hres := Option.some.inj hf; subst hres
                exact zw_iret (v := t26) (ty := .int) hx hb hr hlk rfl hw zd_X10_judge_135 (Nat.le_refl 0) (Nat.le_refl 0)
            · replace hf := zo_f c16 hf
              refine zl_aload_n hx hb zd_X10_judge_84 rfl (lv_at hl 2 rfl) ?_
              refine lv_bipush (v := (-5)) hx hb zd_X10_judge_85 (by decide) ?_
              replace hf := zo_b hf; obtain ⟨r27, er27, hf⟩ := hf
              refine zw_callV (n := 1) (ci := 10) (q := zc_cl[10]) (As := [.int ((-5))]) (rest := []) S hK hw (zt_X10_no10 l g r10.1 q (-5) _ er27) zm_1335 zm_1337 zm_40 zq_X10_no10 zm_79 (by decide +kernel) ⟨Nat.le_of_ble_eq_true rfl, Nat.le_of_ble_eq_true rfl⟩ rfl rfl rfl (zi_X10_no10 er27) hl.1 rfl (by simp [zv_cat, zv_ci, zv_cj]) zd_X10_judge_87 ⟨(Nat.le_refl 0), (Nat.le_refl 0)⟩ (fun H locs hw => ?_)
              replace hw : zc_W g r27.1 H locs := hw
              have hres := Option.some.inj hf; subst hres
              exact zw_iret (v := r27.2) (ty := .int) hx hb hr hlk rfl hw zd_X10_judge_90 (Nat.le_refl 0) (Nat.le_refl 0)
          · replace hf := zo_t c11 hf
            refine zl_aload_n hx hb zd_X10_judge_66 rfl (lv_at hl 2 rfl) ?_
            refine lv_bipush (v := (-6)) hx hb zd_X10_judge_67 (by decide) ?_
            replace hf := zo_b hf; obtain ⟨r28, er28, hf⟩ := hf
            refine zw_callV (n := 1) (ci := 10) (q := zc_cl[10]) (As := [.int ((-6))]) (rest := []) S hK hw (zt_X10_no10 l g r10.1 q (-6) _ er28) zm_1335 zm_1337 zm_40 zq_X10_no10 zm_79 (by decide +kernel) ⟨Nat.le_of_ble_eq_true rfl, Nat.le_of_ble_eq_true rfl⟩ rfl rfl rfl (zi_X10_no10 er28) hl.1 rfl (by simp [zv_cat, zv_ci, zv_cj]) zd_X10_judge_69 ⟨(Nat.le_refl 0), (Nat.le_refl 0)⟩ (fun H locs hw => ?_)
            replace hw : zc_W g r28.1 H locs := hw
            have hres := Option.some.inj hf; subst hres
            exact zw_iret (v := r28.2) (ty := .int) hx hb hr hlk rfl hw zd_X10_judge_72 (Nat.le_refl 0) (Nat.le_refl 0)
        · replace hf := zo_f c8 hf
          refine zl_aload_n hx hb zd_X10_judge_40 rfl (lv_at hl 1 rfl) ?_
          refine lv_iload hx hb zd_X10_judge_41 (lv_at hl 0 rfl) ?_
          replace hf := zo_b hf; obtain ⟨r29, er29, hf⟩ := hf
          refine zw_callV (n := 1) (ci := 10) (q := zc_cl[10]) (As := [.int (r1)]) (rest := []) S hK hw (zt_X10_no10 l g h q r1 _ er29) zm_1335 zm_1337 zm_40 zq_X10_no10 zm_79 (by decide +kernel) ⟨Nat.le_of_ble_eq_true rfl, Nat.le_of_ble_eq_true rfl⟩ rfl rfl rfl (zi_X10_no10 er29) hl.1 rfl (by simp [zv_cat, zv_ci, zv_cj]) zd_X10_judge_43 ⟨(Nat.le_refl 0), (Nat.le_refl 0)⟩ (fun H locs hw => ?_)
          replace hw : zc_W g r29.1 H locs := hw
          have hres := Option.some.inj hf; subst hres
          exact zw_iret (v := r29.2) (ty := .int) hx hb hr hlk rfl hw zd_X10_judge_46 (Nat.le_refl 0) (Nat.le_refl 0)
      · replace hf := zo_t c7 hf
        exact k29h () _ _ _ hf hw (lv_sub hl [1] rfl)
def zf_X10_copies_L17 (q : Nat) (y1 : Int32) : Nat → zc_H → Int32 → Option (zc_H)
  | 0, _, _ => none
  | n + 1, h, y2 =>
    if 24 ≤ y2 then
      some h
    else
    (zf_gr h q 10 3).bind fun v12 =>
    (zf_gi h q 10 0).bind fun v14 =>
    (zf_gr h q 10 3).bind fun v16 =>
    v16.bind fun a18 =>
    (zf_aj h a18 ((24 * y1) + y2)).bind fun v19 =>
    v12.bind fun a20 =>
    (zf_sj h a20 ((24 * v14) + y2) v19).bind fun h21 =>
    zf_X10_copies_L17 q y1 n h21 (y2 + 1)
def zf_X10_copies (h : zc_H) (q : Nat) (x1 : Int32) : Option (zc_H) :=
  if ¬ zf_is h q 10 = true then none else
  (zf_gr h q 10 2).bind fun v1 =>
  (zf_gi h q 10 0).bind fun v3 =>
  (zf_gr h q 10 2).bind fun v5 =>
  v5.bind fun a7 =>
  (zf_ai h a7 0 x1).bind fun v8 =>
  v1.bind fun a9 =>
  (zf_si h a9 0 v3 v8).bind fun h10 =>
  (zf_X10_copies_L17 q x1 2000 h10 0).bind fun w22 =>
  some w22
abbrev zr_X10_copies : Room := { frames := 0, cells := 0, slots := 0, locals := 0 }
theorem zi_X10_copies {h : zc_H} {q : Nat} {x1 : Int32} {res : zc_H} (hf : zf_X10_copies h q x1 = some res) : zf_is h q 10 = true := Decidable.not_not.mp (zo_n hf).1
set_option maxHeartbeats 4000000 in
set_option maxRecDepth 20000 in
theorem zt_X10_copies (l : Launch) (g : zc_G) (h : zc_H) (q : Nat) (x1 : Int32) (res : zc_H) (hf : zf_X10_copies h q x1 = some res) : zc_M l g yX10_copies cX10_copies 3 none zr_X10_copies h [va_rf ((some q)), .int (x1)] res none := by
  refine zc_M.of (by decide) (by simp [lg_sl, zv_cat, zv_ci, zv_cj]) ?_
  intro p e s m below meth c ls S hK hw hr hlk hnm hl
  replace S : CallFix p m c cX10_copies 3 s [va_rf ((some q)), .int (x1)].toArray (zc_ws yX10_copies cX10_copies 3 none) RX10 := S
  have hx := S.1
  have hb := S.2.1
  replace hl : lv_has ls 3 [(0, va_rf ((some q))), (1, .int (x1))] := by simpa [lv_args, zv_cat, zv_ci, zv_cj] using hl
  generalize s.heap = H at hw ⊢
  obtain ⟨locs, hlocs⟩ : ∃ L : List Loc, L = [] := ⟨_, rfl⟩
  rw [← hlocs] at hw ⊢
  have L17 : ∀ (y1 : Int32) (n : Nat) (h : zc_H) (y2 : Int32) (w : zc_H) (H : Heap) (locs : List Loc) (ls : Array Slot), zf_X10_copies_L17 q y1 n h y2 = some w → zc_W g h H locs → lv_has ls 3 [(0, va_rf ((some q))), (1, .int (y1)), (2, .int (y2))] → (∀ (H : Heap) (locs : List Loc) (ls : Array Slot), zc_W g w H locs → lv_has ls 3 [] → W p l e zr_X10_copies s m [va_rf ((some q)), .int (x1)].toArray below meth c H locs 0 0 (zc_Q g below zr_X10_copies none res [va_rf ((some q)), .int (x1)] s) (F0 m 54 ls [])) → W p l e zr_X10_copies s m [va_rf ((some q)), .int (x1)].toArray below meth c H locs 0 0 (zc_Q g below zr_X10_copies none res [va_rf ((some q)), .int (x1)] s) (F0 m 17 ls []) := by
    intro y1 n
    induction n with
    | zero =>
      intro h y2 w H locs ls hf
      cases hf
    | succ n ih =>
      intro h y2 w H locs ls hf hw hl  kk
      unfold zf_X10_copies_L17 at hf
      refine lv_iload_n hx hb zd_X10_copies_17 rfl (lv_at hl 2 rfl) ?_
      refine lv_bipush (v := 24) hx hb zd_X10_copies_18 (by decide) ?_
      refine lv_icmp_ge (tgt := 54) hx hb zd_X10_copies_20 (by decide) (fun c11 => ?_) (fun c11 => ?_)
      · replace hf := zo_t c11 hf
        have hres := Option.some.inj hf; subst hres
        exact kk _ _ _ hw (lv_sub hl [] rfl)
      · replace hf := zo_f c11 hf
        refine zl_aload_n hx hb zd_X10_copies_23 rfl (lv_at hl 0 rfl) ?_
        replace hf := zo_b hf; obtain ⟨v12, ev12, hf⟩ := hf
        obtain ⟨u13, u13e, u13v⟩ := zo_b ev12
        obtain rfl := zv_r_e u13v
        refine zw_get S hK hw zk_10 (k := 3) (by decide) rfl zm_1091 (Or.inl rfl) u13e zd_X10_copies_24 ?_
        refine lv_bipush (v := 24) hx hb zd_X10_copies_27 (by decide) ?_
        refine zl_aload_n hx hb zd_X10_copies_29 rfl (lv_at hl 0 rfl) ?_
        replace hf := zo_b hf; obtain ⟨v14, ev14, hf⟩ := hf
        obtain ⟨u15, u15e, u15v⟩ := zo_b ev14
        obtain rfl := zv_i_e u15v
        refine zw_get S hK hw zk_10 (k := 0) (by decide) rfl zm_1088 (Or.inl rfl) u15e zd_X10_copies_30 ?_
        refine lv_imul hx hb zd_X10_copies_33 ?_
        refine lv_iload_n hx hb zd_X10_copies_34 rfl (lv_at hl 2 rfl) ?_
        refine lv_iadd hx hb zd_X10_copies_35 ?_
        refine zl_aload_n hx hb zd_X10_copies_36 rfl (lv_at hl 0 rfl) ?_
        replace hf := zo_b hf; obtain ⟨v16, ev16, hf⟩ := hf
        obtain ⟨u17, u17e, u17v⟩ := zo_b ev16
        obtain rfl := zv_r_e u17v
        refine zw_get S hK hw zk_10 (k := 3) (by decide) rfl zm_1091 (Or.inl rfl) u17e zd_X10_copies_37 ?_
        refine lv_bipush (v := 24) hx hb zd_X10_copies_40 (by decide) ?_
        refine lv_iload_n hx hb zd_X10_copies_42 rfl (lv_at hl 1 rfl) ?_
        refine lv_imul hx hb zd_X10_copies_43 ?_
        refine lv_iload_n hx hb zd_X10_copies_44 rfl (lv_at hl 2 rfl) ?_
        refine lv_iadd hx hb zd_X10_copies_45 ?_
        replace hf := zo_b hf; obtain ⟨a18, na18, hf⟩ := hf
        refine W.eq (g2 := F0 m 46 ls [.int (((24 * y1) + y2)), va_rf ((some a18)), .int (((24 * v14) + y2)), va_rf (v12)]) (by rw [na18] <;> rfl) ?_
        replace hf := zo_b hf; obtain ⟨v19, ev19, hf⟩ := hf
        refine zw_lald S hK hw ev19 zd_X10_copies_46 ?_
        replace hf := zo_b hf; obtain ⟨a20, na20, hf⟩ := hf
        refine W.eq (g2 := F0 m 47 ls [.long (v19), .int (((24 * v14) + y2)), va_rf ((some a20))]) (by rw [na20] <;> rfl) ?_
        replace hf := zo_b hf; obtain ⟨h21, eh21, hf⟩ := hf
        refine zw_last S hK hw eh21 zd_X10_copies_47 (fun H locs hw => ?_)
        refine lv_iinc (i := 2) (v := (y2 + 1)) (lv' := [(2, .int ((y2 + 1))), (0, va_rf ((some q))), (1, .int (y1))]) hx hb zd_X10_copies_48 hl (k := 2) rfl (congrArg (_ + ·) (by decide)) (by decide) rfl (fun ls hl => ?_)
        refine lv_goto (tgt := 17) hx hb zd_X10_copies_51 (by decide) ?_
        exact ih h21 (y2 + 1) _ _ _ _ hf hw (lv_sub hl [1, 2, 0] rfl) kk
  unfold zf_X10_copies at hf
  obtain ⟨-, hf⟩ := zo_n hf
  refine zl_aload_n hx hb zd_X10_copies_0 rfl (lv_at hl 0 rfl) ?_
  replace hf := zo_b hf; obtain ⟨v1, ev1, hf⟩ := hf
  obtain ⟨u2, u2e, u2v⟩ := zo_b ev1
  obtain rfl := zv_r_e u2v
  refine zw_get S hK hw zk_10 (k := 2) (by decide) rfl zm_1090 (Or.inl rfl) u2e zd_X10_copies_1 ?_
  refine zl_aload_n hx hb zd_X10_copies_4 rfl (lv_at hl 0 rfl) ?_
  replace hf := zo_b hf; obtain ⟨v3, ev3, hf⟩ := hf
  obtain ⟨u4, u4e, u4v⟩ := zo_b ev3
  obtain rfl := zv_i_e u4v
  refine zw_get S hK hw zk_10 (k := 0) (by decide) rfl zm_1088 (Or.inl rfl) u4e zd_X10_copies_5 ?_
  refine zl_aload_n hx hb zd_X10_copies_8 rfl (lv_at hl 0 rfl) ?_
  replace hf := zo_b hf; obtain ⟨v5, ev5, hf⟩ := hf
  obtain ⟨u6, u6e, u6v⟩ := zo_b ev5
  obtain rfl := zv_r_e u6v
  refine zw_get S hK hw zk_10 (k := 2) (by decide) rfl zm_1090 (Or.inl rfl) u6e zd_X10_copies_9 ?_
  refine lv_iload_n hx hb zd_X10_copies_12 rfl (lv_at hl 1 rfl) ?_
  replace hf := zo_b hf; obtain ⟨a7, na7, hf⟩ := hf
  refine W.eq (g2 := F0 m 13 ls [.int (x1), va_rf ((some a7)), .int (v3), va_rf (v1)]) (by rw [na7] <;> rfl) ?_
  replace hf := zo_b hf; obtain ⟨v8, ev8, hf⟩ := hf
  refine zw_iald S hK hw ev8 zd_X10_copies_13 ?_
  replace hf := zo_b hf; obtain ⟨a9, na9, hf⟩ := hf
  refine W.eq (g2 := F0 m 14 ls [.int (v8), .int (v3), va_rf ((some a9))]) (by rw [na9] <;> rfl) ?_
  replace hf := zo_b hf; obtain ⟨h10, eh10, hf⟩ := hf
  refine zw_iast S hK hw eh10 zd_X10_copies_14 (fun H locs hw => ?_)
  refine lv_iconst (v := 0) hx hb zd_X10_copies_15 (by decide) ?_
  refine lv_istore_n (i := 2) (lv' := [(2, .int (0)), (0, va_rf ((some q))), (1, .int (x1))]) hx hb zd_X10_copies_16 rfl hl (by decide) rfl (fun ls hl => ?_)
  replace hf := zo_b hf; obtain ⟨w22, w22e, hf⟩ := hf
  refine L17 x1 2000 h10 0 _ _ _ _ w22e hw (lv_sub hl [1, 2, 0] rfl) (fun H locs ls hw hl => ?_)
  have hres := Option.some.inj hf; subst hres
  exact zw_vret hx hb hr hlk hw zd_X10_copies_54 (Nat.le_refl 0) (Nat.le_refl 0)
def zf_X10_again_L44 (h : zc_H) (q : Nat) (y1 : Int32) (y2 : Int32) : Nat → Int32 → Int32 → Option (Int32)
  | 0, _, _ => none
  | n + 1, y3, y4 =>
    (zf_gi h q 10 5).bind fun v8 =>
    if v8 ≤ y4 then
      some y3
    else
    (zf_X10_of h q 2 y4).bind fun r11 =>
    let k78 := fun (y78_3 : Int32) =>
      zf_X10_again_L44 h q y1 y2 n y78_3 (y4 + 1)
    if r11 = y1 then
      (zf_X10_of h q 6 y4).bind fun r13 =>
      if r13 = 0 then
        k78 (y3 + 1)
      else
      k78 y3
    else
    k78 y3
def zf_X10_again_L132 (q : Nat) (y1 : Int32) (y3 : Int32) (y4 : Int32) (y5 : Int32) : Nat → zc_H → Int32 → Option (zc_H)
  | 0, _, _ => none
  | n + 1, h, y6 =>
    if y5 ≤ y6 then
      some h
    else
    (zf_X10_of h q 2 y6).bind fun r28 =>
    let k203 := fun (h203j : zc_H) =>
      zf_X10_again_L132 q y1 y3 y4 y5 n h203j (y6 + 1)
    if r28 = y1 then
      (zf_X10_of h q 6 y6).bind fun r30 =>
      if r30 = 0 then
        (zf_X10_of h q 0 y6).bind fun r32 =>
        (zf_X10_of h q 1 y6).bind fun r33 =>
        (zf_X10_of h q 3 y6).bind fun r34 =>
        (zf_X10_of h q 4 y6).bind fun r35 =>
        (zf_X10_of h q 5 y6).bind fun r36 =>
        (zf_X10_newRemark h q r32 r33 y4 r34 r35 r36).bind fun r37 =>
        k203 r37.1
      else
      k203 h
    else
    k203 h
def zf_X10_again (h : zc_H) (q : Nat) (x1 : Int32) (x2 : Int32) : Option (zc_H × Int32) :=
  if ¬ zf_is h q 10 = true then none else
  (zf_X10_isRevision h q x1).bind fun r1 =>
  let k16 := fun (_ : Unit) =>
    (zf_X10_no h q (-1)).bind fun r3 =>
    some (r3.1, r3.2)
  if r1 = 0 then
    k16 ()
  else
  (zf_X10_isRevision h q x2).bind fun r4 =>
  if r4 = 0 then
    k16 ()
  else
  (zf_X10_behind h q x2 x1).bind fun r6 =>
  if r6.2 = (-1) then
    (zf_X10_again_L44 r6.1 q x1 x2 2000 0 0).bind fun w15 =>
    (zf_gi r6.1 q 10 0).bind fun v16 =>
    let k104 := fun (_ : Unit) =>
      (zf_X10_no r6.1 q (-7)).bind fun r19 =>
      some (r19.1, r19.2)
    if v16 = 16 then
      k104 ()
    else
    (zf_gi r6.1 q 10 5).bind fun v20 =>
    if (v20 + w15) ≤ 16 then
      (zf_X10_copies r6.1 q x1).bind fun r23 =>
      (zf_X10_comesTo r23 q x2).bind fun r24 =>
      (zf_gi r24.1 q 10 5).bind fun v25 =>
      (zf_X10_again_L132 q x1 w15 r24.2 v25 2000 r24.1 0).bind fun w38 =>
      some (w38, w15)
    else
    k104 ()
  else
  (zf_X10_no r6.1 q (-6)).bind fun r39 =>
  some (r39.1, r39.2)
abbrev zr_X10_again : Room := { frames := 6, cells := 0, slots := 0, locals := 143 }
theorem zi_X10_again {h : zc_H} {q : Nat} {x1 : Int32} {x2 : Int32} {res : zc_H × Int32} (hf : zf_X10_again h q x1 x2 = some res) : zf_is h q 10 = true := Decidable.not_not.mp (zo_n hf).1
set_option maxHeartbeats 4000000 in
set_option maxRecDepth 20000 in
theorem zt_X10_again (l : Launch) (g : zc_G) (h : zc_H) (q : Nat) (x1 : Int32) (x2 : Int32) (res : zc_H × Int32) (hf : zf_X10_again h q x1 x2 = some res) : zc_M l g yX10_again cX10_again 7 (some .int) zr_X10_again h [va_rf ((some q)), .int (x1), .int (x2)] res.1 (some (.int (res.2))) := by
  refine zc_M.of (by decide) (by simp [lg_sl, zv_cat, zv_ci, zv_cj]) ?_
  intro p e s m below meth c ls S hK hw hr hlk hnm hl
  replace S : CallFix p m c cX10_again 7 s [va_rf ((some q)), .int (x1), .int (x2)].toArray (zc_ws yX10_again cX10_again 7 (some .int)) RX10 := S
  have hx := S.1
  have hb := S.2.1
  replace hl : lv_has ls 7 [(0, va_rf ((some q))), (1, .int (x1)), (2, .int (x2))] := by simpa [lv_args, zv_cat, zv_ci, zv_cj] using hl
  generalize s.heap = H at hw ⊢
  obtain ⟨locs, hlocs⟩ : ∃ L : List Loc, L = [] := ⟨_, rfl⟩
  rw [← hlocs] at hw ⊢
  have L44 : ∀ (h : zc_H) (y1 : Int32) (y2 : Int32) (n : Nat) (y3 : Int32) (y4 : Int32) (w : Int32) (H : Heap) (locs : List Loc) (ls : Array Slot), zf_X10_again_L44 h q y1 y2 n y3 y4 = some w → zc_W g h H locs → lv_has ls 7 [(0, va_rf ((some q))), (1, .int (y1)), (2, .int (y2)), (3, .int (y3)), (4, .int (y4))] → (∀ (H : Heap) (locs : List Loc) (ls : Array Slot), zc_W g h H locs → lv_has ls 7 [(0, va_rf ((some q))), (1, .int (y1)), (2, .int (y2)), (3, .int (w))] → W p l e zr_X10_again s m [va_rf ((some q)), .int (x1), .int (x2)].toArray below meth c H locs 0 0 (zc_Q g below zr_X10_again (some (.int (res.2))) res.1 [va_rf ((some q)), .int (x1), .int (x2)] s) (F0 m 84 ls [])) → W p l e zr_X10_again s m [va_rf ((some q)), .int (x1), .int (x2)].toArray below meth c H locs 0 0 (zc_Q g below zr_X10_again (some (.int (res.2))) res.1 [va_rf ((some q)), .int (x1), .int (x2)] s) (F0 m 44 ls []) := by
    intro h y1 y2 n
    induction n with
    | zero =>
      intro y3 y4 w H locs ls hf
      cases hf
    | succ n ih =>
      intro y3 y4 w H locs ls hf hw hl  kk
      unfold zf_X10_again_L44 at hf
      refine lv_iload hx hb zd_X10_again_44 (lv_at hl 4 rfl) ?_
      refine zl_aload_n hx hb zd_X10_again_46 rfl (lv_at hl 0 rfl) ?_
      replace hf := zo_b hf; obtain ⟨v8, ev8, hf⟩ := hf
      obtain ⟨u9, u9e, u9v⟩ := zo_b ev8
      obtain rfl := zv_i_e u9v
      refine zw_get S hK hw zk_10 (k := 5) (by decide) rfl zm_1093 (Or.inl rfl) u9e zd_X10_again_47 ?_
      refine lv_icmp_ge (tgt := 84) hx hb zd_X10_again_50 (by decide) (fun c10 => ?_) (fun c10 => ?_)
      · replace hf := zo_t c10 hf
        have hres := Option.some.inj hf; subst hres
        exact kk _ _ _ hw (lv_sub hl [0, 1, 2, 3] rfl)
      · replace hf := zo_f c10 hf
        refine zl_aload_n hx hb zd_X10_again_53 rfl (lv_at hl 0 rfl) ?_
        refine lv_iconst (v := 2) hx hb zd_X10_again_54 (by decide) ?_
        refine lv_iload hx hb zd_X10_again_55 (lv_at hl 4 rfl) ?_
        replace hf := zo_b hf; obtain ⟨r11, er11, hf⟩ := hf
        refine zw_callV (n := 2) (ci := 10) (q := zc_cl[10]) (As := [.int (2), .int (y4)]) (rest := []) S hK hw (zt_X10_of l g h q 2 y4 _ er11) zm_1259 zm_1261 zm_28 zq_X10_of zm_79 (by decide +kernel) ⟨Nat.le_of_ble_eq_true rfl, Nat.le_of_ble_eq_true rfl⟩ rfl rfl rfl (zi_X10_of er11) hl.1 rfl (by simp [zv_cat, zv_ci, zv_cj]) zd_X10_again_57 ⟨(Nat.le_refl 0), (Nat.le_refl 0)⟩ (fun H locs hw => ?_)
        replace hw : zc_W g h H locs := hw
        refine lv_iload_n hx hb zd_X10_again_60 rfl (lv_at hl 1 rfl) ?_
        have k78h : ∀ (y78_3 : Int32) (H : Heap) (locs : List Loc) (ls : Array Slot), (
            zf_X10_again_L44 h q y1 y2 n y78_3 (y4 + 1)
            ) = some w → zc_W g h H locs → lv_has ls 7 [(0, va_rf ((some q))), (1, .int (y1)), (2, .int (y2)), (3, .int (y78_3)), (4, .int (y4))] → W p l e zr_X10_again s m [va_rf ((some q)), .int (x1), .int (x2)].toArray below meth c H locs (0 + 0) (0 + 0) (zc_Q g below zr_X10_again (some (.int (res.2))) res.1 [va_rf ((some q)), .int (x1), .int (x2)] s) (F0 m 78 ls []) := by
          intro y78_3 H locs ls hf hw hl
          refine lv_iinc (i := 4) (v := (y4 + 1)) (lv' := [(4, .int ((y4 + 1))), (0, va_rf ((some q))), (1, .int (y1)), (2, .int (y2)), (3, .int (y78_3))]) hx hb zd_X10_again_78 hl (k := 4) rfl (congrArg (_ + ·) (by decide)) (by decide) rfl (fun ls hl => ?_)
          refine lv_goto (tgt := 44) hx hb zd_X10_again_81 (by decide) ?_
          exact ih y78_3 (y4 + 1) _ _ _ _ hf hw (lv_sub hl [1, 2, 3, 4, 0] rfl) kk
        refine lv_icmp_ne (tgt := 78) hx hb zd_X10_again_61 (by decide) (fun c12 => ?_) (fun c12 => ?_)
        · replace hf := zo_f c12 hf
          exact k78h y3 _ _ _ hf hw (lv_sub hl [0, 1, 2, 3, 4] rfl)
        · replace hf := zo_t c12 hf
          refine zl_aload_n hx hb zd_X10_again_64 rfl (lv_at hl 0 rfl) ?_
          refine lv_bipush (v := 6) hx hb zd_X10_again_65 (by decide) ?_
          refine lv_iload hx hb zd_X10_again_67 (lv_at hl 4 rfl) ?_
          replace hf := zo_b hf; obtain ⟨r13, er13, hf⟩ := hf
          refine zw_callV (n := 2) (ci := 10) (q := zc_cl[10]) (As := [.int (6), .int (y4)]) (rest := []) S hK hw (zt_X10_of l g h q 6 y4 _ er13) zm_1259 zm_1261 zm_28 zq_X10_of zm_79 (by decide +kernel) ⟨Nat.le_of_ble_eq_true rfl, Nat.le_of_ble_eq_true rfl⟩ rfl rfl rfl (zi_X10_of er13) hl.1 rfl (by simp [zv_cat, zv_ci, zv_cj]) zd_X10_again_69 ⟨(Nat.le_refl 0), (Nat.le_refl 0)⟩ (fun H locs hw => ?_)
          replace hw : zc_W g h H locs := hw
          refine lv_if_ne (tgt := 78) hx hb zd_X10_again_72 (by decide) (fun c14 => ?_) (fun c14 => ?_)
          · replace hf := zo_f c14 hf
            exact k78h y3 _ _ _ hf hw (lv_sub hl [0, 1, 2, 3, 4] rfl)
          · replace hf := zo_t c14 hf
            refine lv_iinc (i := 3) (v := (y3 + 1)) (lv' := [(3, .int ((y3 + 1))), (0, va_rf ((some q))), (1, .int (y1)), (2, .int (y2)), (4, .int (y4))]) hx hb zd_X10_again_75 hl (k := 3) rfl (congrArg (_ + ·) (by decide)) (by decide) rfl (fun ls hl => ?_)
            exact k78h (y3 + 1) _ _ _ hf hw (lv_sub hl [1, 2, 3, 0, 4] rfl)
  have L132 : ∀ (y1 : Int32) (y3 : Int32) (y4 : Int32) (y5 : Int32) (n : Nat) (h : zc_H) (y6 : Int32) (w : zc_H) (H : Heap) (locs : List Loc) (ls : Array Slot), zf_X10_again_L132 q y1 y3 y4 y5 n h y6 = some w → zc_W g h H locs → lv_has ls 7 [(0, va_rf ((some q))), (1, .int (y1)), (3, .int (y3)), (4, .int (y4)), (5, .int (y5)), (6, .int (y6))] → (∀ (H : Heap) (locs : List Loc) (ls : Array Slot), zc_W g w H locs → lv_has ls 7 [(3, .int (y3))] → W p l e zr_X10_again s m [va_rf ((some q)), .int (x1), .int (x2)].toArray below meth c H locs 0 0 (zc_Q g below zr_X10_again (some (.int (res.2))) res.1 [va_rf ((some q)), .int (x1), .int (x2)] s) (F0 m 209 ls [])) → W p l e zr_X10_again s m [va_rf ((some q)), .int (x1), .int (x2)].toArray below meth c H locs 0 0 (zc_Q g below zr_X10_again (some (.int (res.2))) res.1 [va_rf ((some q)), .int (x1), .int (x2)] s) (F0 m 132 ls []) := by
    intro y1 y3 y4 y5 n
    induction n with
    | zero =>
      intro h y6 w H locs ls hf
      cases hf
    | succ n ih =>
      intro h y6 w H locs ls hf hw hl  kk
      unfold zf_X10_again_L132 at hf
      refine lv_iload hx hb zd_X10_again_132 (lv_at hl 5 rfl) ?_
      refine lv_iload hx hb zd_X10_again_134 (lv_at hl 4 rfl) ?_
      refine lv_icmp_ge (tgt := 209) hx hb zd_X10_again_136 (by decide) (fun c27 => ?_) (fun c27 => ?_)
      · replace hf := zo_t c27 hf
        have hres := Option.some.inj hf; subst hres
        exact kk _ _ _ hw (lv_sub hl [2] rfl)
      · replace hf := zo_f c27 hf
        refine zl_aload_n hx hb zd_X10_again_139 rfl (lv_at hl 0 rfl) ?_
        refine lv_iconst (v := 2) hx hb zd_X10_again_140 (by decide) ?_
        refine lv_iload hx hb zd_X10_again_141 (lv_at hl 5 rfl) ?_
        replace hf := zo_b hf; obtain ⟨r28, er28, hf⟩ := hf
        refine zw_callV (n := 2) (ci := 10) (q := zc_cl[10]) (As := [.int (2), .int (y6)]) (rest := []) S hK hw (zt_X10_of l g h q 2 y6 _ er28) zm_1259 zm_1261 zm_28 zq_X10_of zm_79 (by decide +kernel) ⟨Nat.le_of_ble_eq_true rfl, Nat.le_of_ble_eq_true rfl⟩ rfl rfl rfl (zi_X10_of er28) hl.1 rfl (by simp [zv_cat, zv_ci, zv_cj]) zd_X10_again_143 ⟨(Nat.le_refl 0), (Nat.le_refl 0)⟩ (fun H locs hw => ?_)
        replace hw : zc_W g h H locs := hw
        refine lv_iload_n hx hb zd_X10_again_146 rfl (lv_at hl 1 rfl) ?_
        have k203h : ∀ (h203j : zc_H) (H : Heap) (locs : List Loc) (ls : Array Slot), (
            zf_X10_again_L132 q y1 y3 y4 y5 n h203j (y6 + 1)
            ) = some w → zc_W g h203j H locs → lv_has ls 7 [(0, va_rf ((some q))), (1, .int (y1)), (3, .int (y3)), (4, .int (y4)), (5, .int (y5)), (6, .int (y6))] → W p l e zr_X10_again s m [va_rf ((some q)), .int (x1), .int (x2)].toArray below meth c H locs (0 + 0) (0 + 0) (zc_Q g below zr_X10_again (some (.int (res.2))) res.1 [va_rf ((some q)), .int (x1), .int (x2)] s) (F0 m 203 ls []) := by
          intro h203j H locs ls hf hw hl
          refine lv_iinc (i := 6) (v := (y6 + 1)) (lv' := [(6, .int ((y6 + 1))), (0, va_rf ((some q))), (1, .int (y1)), (3, .int (y3)), (4, .int (y4)), (5, .int (y5))]) hx hb zd_X10_again_203 hl (k := 5) rfl (congrArg (_ + ·) (by decide)) (by decide) rfl (fun ls hl => ?_)
          refine lv_goto (tgt := 132) hx hb zd_X10_again_206 (by decide) ?_
          exact ih h203j (y6 + 1) _ _ _ _ hf hw (lv_sub hl [1, 2, 3, 4, 5, 0] rfl) kk
        refine lv_icmp_ne (tgt := 203) hx hb zd_X10_again_147 (by decide) (fun c29 => ?_) (fun c29 => ?_)
        · replace hf := zo_f c29 hf
          exact k203h h _ _ _ hf hw (lv_sub hl [0, 1, 2, 3, 4, 5] rfl)
        · replace hf := zo_t c29 hf
          refine zl_aload_n hx hb zd_X10_again_150 rfl (lv_at hl 0 rfl) ?_
          refine lv_bipush (v := 6) hx hb zd_X10_again_151 (by decide) ?_
          refine lv_iload hx hb zd_X10_again_153 (lv_at hl 5 rfl) ?_
          replace hf := zo_b hf; obtain ⟨r30, er30, hf⟩ := hf
          refine zw_callV (n := 2) (ci := 10) (q := zc_cl[10]) (As := [.int (6), .int (y6)]) (rest := []) S hK hw (zt_X10_of l g h q 6 y6 _ er30) zm_1259 zm_1261 zm_28 zq_X10_of zm_79 (by decide +kernel) ⟨Nat.le_of_ble_eq_true rfl, Nat.le_of_ble_eq_true rfl⟩ rfl rfl rfl (zi_X10_of er30) hl.1 rfl (by simp [zv_cat, zv_ci, zv_cj]) zd_X10_again_155 ⟨(Nat.le_refl 0), (Nat.le_refl 0)⟩ (fun H locs hw => ?_)
          replace hw : zc_W g h H locs := hw
          refine lv_if_ne (tgt := 203) hx hb zd_X10_again_158 (by decide) (fun c31 => ?_) (fun c31 => ?_)
          · replace hf := zo_f c31 hf
            exact k203h h _ _ _ hf hw (lv_sub hl [0, 1, 2, 3, 4, 5] rfl)
          · replace hf := zo_t c31 hf
            refine zl_aload_n hx hb zd_X10_again_161 rfl (lv_at hl 0 rfl) ?_
            refine zl_aload_n hx hb zd_X10_again_162 rfl (lv_at hl 0 rfl) ?_
            refine lv_iconst (v := 0) hx hb zd_X10_again_163 (by decide) ?_
            refine lv_iload hx hb zd_X10_again_164 (lv_at hl 5 rfl) ?_
            replace hf := zo_b hf; obtain ⟨r32, er32, hf⟩ := hf
            refine zw_callV (n := 2) (ci := 10) (q := zc_cl[10]) (As := [.int (0), .int (y6)]) (rest := [va_rf ((some q))]) S hK hw (zt_X10_of l g h q 0 y6 _ er32) zm_1259 zm_1261 zm_28 zq_X10_of zm_79 (by decide +kernel) ⟨Nat.le_of_ble_eq_true rfl, Nat.le_of_ble_eq_true rfl⟩ rfl rfl rfl (zi_X10_of er32) hl.1 rfl (by simp [zv_cat, zv_ci, zv_cj]) zd_X10_again_166 ⟨(Nat.le_refl 0), (Nat.le_refl 0)⟩ (fun H locs hw => ?_)
            replace hw : zc_W g h H locs := hw
            refine zl_aload_n hx hb zd_X10_again_169 rfl (lv_at hl 0 rfl) ?_
            refine lv_iconst (v := 1) hx hb zd_X10_again_170 (by decide) ?_
            refine lv_iload hx hb zd_X10_again_171 (lv_at hl 5 rfl) ?_
            replace hf := zo_b hf; obtain ⟨r33, er33, hf⟩ := hf
            refine zw_callV (n := 2) (ci := 10) (q := zc_cl[10]) (As := [.int (1), .int (y6)]) (rest := [.int (r32), va_rf ((some q))]) S hK hw (zt_X10_of l g h q 1 y6 _ er33) zm_1259 zm_1261 zm_28 zq_X10_of zm_79 (by decide +kernel) ⟨Nat.le_of_ble_eq_true rfl, Nat.le_of_ble_eq_true rfl⟩ rfl rfl rfl (zi_X10_of er33) hl.1 rfl (by simp [zv_cat, zv_ci, zv_cj]) zd_X10_again_173 ⟨(Nat.le_refl 0), (Nat.le_refl 0)⟩ (fun H locs hw => ?_)
            replace hw : zc_W g h H locs := hw
            refine lv_iload hx hb zd_X10_again_176 (lv_at hl 3 rfl) ?_
            refine zl_aload_n hx hb zd_X10_again_178 rfl (lv_at hl 0 rfl) ?_
            refine lv_iconst (v := 3) hx hb zd_X10_again_179 (by decide) ?_
            refine lv_iload hx hb zd_X10_again_180 (lv_at hl 5 rfl) ?_
            replace hf := zo_b hf; obtain ⟨r34, er34, hf⟩ := hf
            refine zw_callV (n := 2) (ci := 10) (q := zc_cl[10]) (As := [.int (3), .int (y6)]) (rest := [.int (y4), .int (r33), .int (r32), va_rf ((some q))]) S hK hw (zt_X10_of l g h q 3 y6 _ er34) zm_1259 zm_1261 zm_28 zq_X10_of zm_79 (by decide +kernel) ⟨Nat.le_of_ble_eq_true rfl, Nat.le_of_ble_eq_true rfl⟩ rfl rfl rfl (zi_X10_of er34) hl.1 rfl (by simp [zv_cat, zv_ci, zv_cj]) zd_X10_again_182 ⟨(Nat.le_refl 0), (Nat.le_refl 0)⟩ (fun H locs hw => ?_)
            replace hw : zc_W g h H locs := hw
            refine zl_aload_n hx hb zd_X10_again_185 rfl (lv_at hl 0 rfl) ?_
            refine lv_iconst (v := 4) hx hb zd_X10_again_186 (by decide) ?_
            refine lv_iload hx hb zd_X10_again_187 (lv_at hl 5 rfl) ?_
            replace hf := zo_b hf; obtain ⟨r35, er35, hf⟩ := hf
            refine zw_callV (n := 2) (ci := 10) (q := zc_cl[10]) (As := [.int (4), .int (y6)]) (rest := [.int (r34), .int (y4), .int (r33), .int (r32), va_rf ((some q))]) S hK hw (zt_X10_of l g h q 4 y6 _ er35) zm_1259 zm_1261 zm_28 zq_X10_of zm_79 (by decide +kernel) ⟨Nat.le_of_ble_eq_true rfl, Nat.le_of_ble_eq_true rfl⟩ rfl rfl rfl (zi_X10_of er35) hl.1 rfl (by simp [zv_cat, zv_ci, zv_cj]) zd_X10_again_189 ⟨(Nat.le_refl 0), (Nat.le_refl 0)⟩ (fun H locs hw => ?_)
            replace hw : zc_W g h H locs := hw
            refine zl_aload_n hx hb zd_X10_again_192 rfl (lv_at hl 0 rfl) ?_
            refine lv_iconst (v := 5) hx hb zd_X10_again_193 (by decide) ?_
            refine lv_iload hx hb zd_X10_again_194 (lv_at hl 5 rfl) ?_
            replace hf := zo_b hf; obtain ⟨r36, er36, hf⟩ := hf
            refine zw_callV (n := 2) (ci := 10) (q := zc_cl[10]) (As := [.int (5), .int (y6)]) (rest := [.int (r35), .int (r34), .int (y4), .int (r33), .int (r32), va_rf ((some q))]) S hK hw (zt_X10_of l g h q 5 y6 _ er36) zm_1259 zm_1261 zm_28 zq_X10_of zm_79 (by decide +kernel) ⟨Nat.le_of_ble_eq_true rfl, Nat.le_of_ble_eq_true rfl⟩ rfl rfl rfl (zi_X10_of er36) hl.1 rfl (by simp [zv_cat, zv_ci, zv_cj]) zd_X10_again_196 ⟨(Nat.le_refl 0), (Nat.le_refl 0)⟩ (fun H locs hw => ?_)
            replace hw : zc_W g h H locs := hw
            replace hf := zo_b hf; obtain ⟨r37, er37, hf⟩ := hf
            refine zw_callV (n := 6) (ci := 10) (q := zc_cl[10]) (As := [.int (r32), .int (r33), .int (y4), .int (r34), .int (r35), .int (r36)]) (rest := []) S hK hw (zt_X10_newRemark l g h q r32 r33 y4 r34 r35 r36 _ er37) zm_1371 zm_1373 zm_43 zq_X10_newRemark zm_79 (by decide +kernel) ⟨Nat.le_of_ble_eq_true rfl, Nat.le_of_ble_eq_true rfl⟩ rfl rfl rfl (zi_X10_newRemark er37) hl.1 rfl (by simp [zv_cat, zv_ci, zv_cj]) zd_X10_again_199 ⟨(Nat.le_refl 0), (Nat.le_refl 0)⟩ (fun H locs hw => ?_)
            replace hw : zc_W g r37.1 H locs := hw
            refine lv_pop hx hb zd_X10_again_202 rfl ?_
            exact k203h r37.1 _ _ _ hf hw (lv_sub hl [0, 1, 2, 3, 4, 5] rfl)
  unfold zf_X10_again at hf
  obtain ⟨-, hf⟩ := zo_n hf
  refine zl_aload_n hx hb zd_X10_again_0 rfl (lv_at hl 0 rfl) ?_
  refine lv_iload_n hx hb zd_X10_again_1 rfl (lv_at hl 1 rfl) ?_
  replace hf := zo_b hf; obtain ⟨r1, er1, hf⟩ := hf
  refine zw_callV (n := 1) (ci := 10) (q := zc_cl[10]) (As := [.int (x1)]) (rest := []) S hK hw (zt_X10_isRevision l g h q x1 _ er1) zm_1273 zm_1275 zm_29 zq_X10_isRevision zm_79 (by decide +kernel) ⟨Nat.le_of_ble_eq_true rfl, Nat.le_of_ble_eq_true rfl⟩ rfl rfl rfl (zi_X10_isRevision er1) hl.1 rfl (by simp [zv_cat, zv_ci, zv_cj]) zd_X10_again_2 ⟨(Nat.le_refl 0), (Nat.le_refl 0)⟩ (fun H locs hw => ?_)
  replace hw : zc_W g h H locs := hw
  have k16h : ∀ (_ : Unit) (H : Heap) (locs : List Loc) (ls : Array Slot), (
      (zf_X10_no h q (-1)).bind fun r3 =>
      some (r3.1, r3.2)
      ) = some res → zc_W g h H locs → lv_has ls 7 [(0, va_rf ((some q)))] → W p l e zr_X10_again s m [va_rf ((some q)), .int (x1), .int (x2)].toArray below meth c H locs (0 + 0) (0 + 0) (zc_Q g below zr_X10_again (some (.int (res.2))) res.1 [va_rf ((some q)), .int (x1), .int (x2)] s) (F0 m 16 ls []) := by
    intro _ H locs ls hf hw hl
    refine zl_aload_n hx hb zd_X10_again_16 rfl (lv_at hl 0 rfl) ?_
    refine lv_iconst (v := (-1)) hx hb zd_X10_again_17 (by decide) ?_
    replace hf := zo_b hf; obtain ⟨r3, er3, hf⟩ := hf
    refine zw_callV (n := 1) (ci := 10) (q := zc_cl[10]) (As := [.int ((-1))]) (rest := []) S hK hw (zt_X10_no l g h q (-1) _ er3) zm_1219 zm_1221 zm_24 zq_X10_no zm_79 (by decide +kernel) ⟨Nat.le_of_ble_eq_true rfl, Nat.le_of_ble_eq_true rfl⟩ rfl rfl rfl (zi_X10_no er3) hl.1 rfl (by simp [zv_cat, zv_ci, zv_cj]) zd_X10_again_18 ⟨(Nat.le_refl 0), (Nat.le_refl 0)⟩ (fun H locs hw => ?_)
    replace hw : zc_W g r3.1 H locs := hw
    have hres := Option.some.inj hf; subst hres
    exact zw_iret (v := r3.2) (ty := .int) hx hb hr hlk rfl hw zd_X10_again_21 (Nat.le_refl 0) (Nat.le_refl 0)
  refine lv_if_eq (tgt := 16) hx hb zd_X10_again_5 (by decide) (fun c2 => ?_) (fun c2 => ?_)
  · replace hf := zo_t c2 hf
    exact k16h () _ _ _ hf hw (lv_sub hl [0] rfl)
  · replace hf := zo_f c2 hf
    refine zl_aload_n hx hb zd_X10_again_8 rfl (lv_at hl 0 rfl) ?_
    refine lv_iload_n hx hb zd_X10_again_9 rfl (lv_at hl 2 rfl) ?_
    replace hf := zo_b hf; obtain ⟨r4, er4, hf⟩ := hf
    refine zw_callV (n := 1) (ci := 10) (q := zc_cl[10]) (As := [.int (x2)]) (rest := []) S hK hw (zt_X10_isRevision l g h q x2 _ er4) zm_1273 zm_1275 zm_29 zq_X10_isRevision zm_79 (by decide +kernel) ⟨Nat.le_of_ble_eq_true rfl, Nat.le_of_ble_eq_true rfl⟩ rfl rfl rfl (zi_X10_isRevision er4) hl.1 rfl (by simp [zv_cat, zv_ci, zv_cj]) zd_X10_again_10 ⟨(Nat.le_refl 0), (Nat.le_refl 0)⟩ (fun H locs hw => ?_)
    replace hw : zc_W g h H locs := hw
    refine lv_if_ne (tgt := 22) hx hb zd_X10_again_13 (by decide) (fun c5 => ?_) (fun c5 => ?_)
    · replace hf := zo_f c5 hf
      refine zl_aload_n hx hb zd_X10_again_22 rfl (lv_at hl 0 rfl) ?_
      refine lv_iload_n hx hb zd_X10_again_23 rfl (lv_at hl 2 rfl) ?_
      refine lv_iload_n hx hb zd_X10_again_24 rfl (lv_at hl 1 rfl) ?_
      replace hf := zo_b hf; obtain ⟨r6, er6, hf⟩ := hf
      refine zw_callV (n := 2) (ci := 10) (q := zc_cl[10]) (As := [.int (x2), .int (x1)]) (rest := []) S hK hw (zt_X10_behind l g h q x2 x1 _ er6) zm_1355 zm_1357 zm_41 zq_X10_behind zm_79 (by decide +kernel) ⟨Nat.le_of_ble_eq_true rfl, Nat.le_of_ble_eq_true rfl⟩ rfl rfl rfl (zi_X10_behind er6) hl.1 rfl (by simp [zv_cat, zv_ci, zv_cj]) zd_X10_again_25 ⟨(Nat.le_refl 0), (Nat.le_refl 0)⟩ (fun H locs hw => ?_)
      replace hw : zc_W g r6.1 H locs := hw
      refine lv_iconst (v := (-1)) hx hb zd_X10_again_28 (by decide) ?_
      refine lv_icmp_eq (tgt := 39) hx hb zd_X10_again_29 (by decide) (fun c7 => ?_) (fun c7 => ?_)
      · replace hf := zo_t c7 hf
        refine lv_iconst (v := 0) hx hb zd_X10_again_39 (by decide) ?_
        refine lv_istore_n (i := 3) (lv' := [(3, .int (0)), (0, va_rf ((some q))), (1, .int (x1)), (2, .int (x2))]) hx hb zd_X10_again_40 rfl hl (by decide) rfl (fun ls hl => ?_)
        refine lv_iconst (v := 0) hx hb zd_X10_again_41 (by decide) ?_
        refine lv_istore (i := 4) (lv' := [(4, .int (0)), (3, .int (0)), (0, va_rf ((some q))), (1, .int (x1)), (2, .int (x2))]) hx hb zd_X10_again_42 hl (by decide) rfl (fun ls hl => ?_)
        replace hf := zo_b hf; obtain ⟨w15, w15e, hf⟩ := hf
        refine L44 r6.1 x1 x2 2000 0 0 _ _ _ _ w15e hw (lv_sub hl [2, 3, 4, 1, 0] rfl) (fun H locs ls hw hl => ?_)
        refine zl_aload_n hx hb zd_X10_again_84 rfl (lv_at hl 0 rfl) ?_
        replace hf := zo_b hf; obtain ⟨v16, ev16, hf⟩ := hf
        obtain ⟨u17, u17e, u17v⟩ := zo_b ev16
        obtain rfl := zv_i_e u17v
        refine zw_get S hK hw zk_10 (k := 0) (by decide) rfl zm_1088 (Or.inl rfl) u17e zd_X10_again_85 ?_
        refine lv_bipush (v := 16) hx hb zd_X10_again_88 (by decide) ?_
        have k104h : ∀ (_ : Unit) (H : Heap) (locs : List Loc) (ls : Array Slot), (
            (zf_X10_no r6.1 q (-7)).bind fun r19 =>
            some (r19.1, r19.2)
            ) = some res → zc_W g r6.1 H locs → lv_has ls 7 [(0, va_rf ((some q)))] → W p l e zr_X10_again s m [va_rf ((some q)), .int (x1), .int (x2)].toArray below meth c H locs (((0 + 0) + 0) + 0) (((0 + 0) + 0) + 0) (zc_Q g below zr_X10_again (some (.int (res.2))) res.1 [va_rf ((some q)), .int (x1), .int (x2)] s) (F0 m 104 ls []) := by
          intro _ H locs ls hf hw hl
          refine zl_aload_n hx hb zd_X10_again_104 rfl (lv_at hl 0 rfl) ?_
          refine lv_bipush (v := (-7)) hx hb zd_X10_again_105 (by decide) ?_
          replace hf := zo_b hf; obtain ⟨r19, er19, hf⟩ := hf
          refine zw_callV (n := 1) (ci := 10) (q := zc_cl[10]) (As := [.int ((-7))]) (rest := []) S hK hw (zt_X10_no l g r6.1 q (-7) _ er19) zm_1219 zm_1221 zm_24 zq_X10_no zm_79 (by decide +kernel) ⟨Nat.le_of_ble_eq_true rfl, Nat.le_of_ble_eq_true rfl⟩ rfl rfl rfl (zi_X10_no er19) hl.1 rfl (by simp [zv_cat, zv_ci, zv_cj]) zd_X10_again_107 ⟨(Nat.le_refl 0), (Nat.le_refl 0)⟩ (fun H locs hw => ?_)
          replace hw : zc_W g r19.1 H locs := hw
          have hres := Option.some.inj hf; subst hres
          exact zw_iret (v := r19.2) (ty := .int) hx hb hr hlk rfl hw zd_X10_again_110 (Nat.le_refl 0) (Nat.le_refl 0)
        refine lv_icmp_eq (tgt := 104) hx hb zd_X10_again_90 (by decide) (fun c18 => ?_) (fun c18 => ?_)
        · replace hf := zo_t c18 hf
          exact k104h () _ _ _ hf hw (lv_sub hl [0] rfl)
        · replace hf := zo_f c18 hf
          refine zl_aload_n hx hb zd_X10_again_93 rfl (lv_at hl 0 rfl) ?_
          replace hf := zo_b hf; obtain ⟨v20, ev20, hf⟩ := hf
          obtain ⟨u21, u21e, u21v⟩ := zo_b ev20
          obtain rfl := zv_i_e u21v
          refine zw_get S hK hw zk_10 (k := 5) (by decide) rfl zm_1093 (Or.inl rfl) u21e zd_X10_again_94 ?_
          refine lv_iload_n hx hb zd_X10_again_97 rfl (lv_at hl 3 rfl) ?_
          refine lv_iadd hx hb zd_X10_again_98 ?_
          refine lv_bipush (v := 16) hx hb zd_X10_again_99 (by decide) ?_
          refine lv_icmp_le (tgt := 111) hx hb zd_X10_again_101 (by decide) (fun c22 => ?_) (fun c22 => ?_)
          · replace hf := zo_t c22 hf
            refine zl_aload_n hx hb zd_X10_again_111 rfl (lv_at hl 0 rfl) ?_
            refine lv_iload_n hx hb zd_X10_again_112 rfl (lv_at hl 1 rfl) ?_
            replace hf := zo_b hf; obtain ⟨r23, er23, hf⟩ := hf
            refine zw_callV (n := 1) (ci := 10) (q := zc_cl[10]) (As := [.int (x1)]) (rest := []) S hK hw (zt_X10_copies l g r6.1 q x1 _ er23) zm_1476 zm_1478 zm_58 zq_X10_copies zm_79 (by decide +kernel) ⟨Nat.le_of_ble_eq_true rfl, Nat.le_of_ble_eq_true rfl⟩ rfl rfl rfl (zi_X10_copies er23) hl.1 rfl (by simp [zv_cat, zv_ci, zv_cj]) zd_X10_again_113 ⟨(Nat.le_refl 0), (Nat.le_refl 0)⟩ (fun H locs hw => ?_)
            replace hw : zc_W g r23 H locs := hw
            refine zl_aload_n hx hb zd_X10_again_116 rfl (lv_at hl 0 rfl) ?_
            refine lv_iload_n hx hb zd_X10_again_117 rfl (lv_at hl 2 rfl) ?_
            replace hf := zo_b hf; obtain ⟨r24, er24, hf⟩ := hf
            refine zw_callV (n := 1) (ci := 10) (q := zc_cl[10]) (As := [.int (x2)]) (rest := []) S hK hw (zt_X10_comesTo l g r23 q x2 _ er24) zm_1285 zm_1287 zm_32 zq_X10_comesTo zm_79 (by decide +kernel) ⟨Nat.le_of_ble_eq_true rfl, Nat.le_of_ble_eq_true rfl⟩ rfl rfl rfl (zi_X10_comesTo er24) hl.1 rfl (by simp [zv_cat, zv_ci, zv_cj]) zd_X10_again_118 ⟨(Nat.le_refl 0), (Nat.le_refl 0)⟩ (fun H locs hw => ?_)
            replace hw : zc_W g r24.1 H locs := hw
            refine lv_istore (i := 4) (lv' := [(4, .int (r24.2)), (0, va_rf ((some q))), (1, .int (x1)), (2, .int (x2)), (3, .int (w15))]) hx hb zd_X10_again_121 hl (by decide) rfl (fun ls hl => ?_)
            refine zl_aload_n hx hb zd_X10_again_123 rfl (lv_at hl 1 rfl) ?_
            replace hf := zo_b hf; obtain ⟨v25, ev25, hf⟩ := hf
            obtain ⟨u26, u26e, u26v⟩ := zo_b ev25
            obtain rfl := zv_i_e u26v
            refine zw_get S hK hw zk_10 (k := 5) (by decide) rfl zm_1093 (Or.inl rfl) u26e zd_X10_again_124 ?_
            refine lv_istore (i := 5) (lv' := [(5, .int (v25)), (4, .int (r24.2)), (0, va_rf ((some q))), (1, .int (x1)), (2, .int (x2)), (3, .int (w15))]) hx hb zd_X10_again_127 hl (by decide) rfl (fun ls hl => ?_)
            refine lv_iconst (v := 0) hx hb zd_X10_again_129 (by decide) ?_
            refine lv_istore (i := 6) (lv' := [(6, .int (0)), (5, .int (v25)), (4, .int (r24.2)), (0, va_rf ((some q))), (1, .int (x1)), (2, .int (x2)), (3, .int (w15))]) hx hb zd_X10_again_130 hl (by decide) rfl (fun ls hl => ?_)
            replace hf := zo_b hf; obtain ⟨w38, w38e, hf⟩ := hf
            refine L132 x1 w15 r24.2 v25 2000 r24.1 0 _ _ _ _ w38e hw (lv_sub hl [3, 4, 6, 2, 1, 0] rfl) (fun H locs ls hw hl => ?_)
            refine lv_iload_n hx hb zd_X10_again_209 rfl (lv_at hl 0 rfl) ?_
            have hres := Option.some.inj hf; subst hres
            exact zw_iret (v := w15) (ty := .int) hx hb hr hlk rfl hw zd_X10_again_210 (Nat.le_refl 0) (Nat.le_refl 0)
          · replace hf := zo_f c22 hf
            exact k104h () _ _ _ hf hw (lv_sub hl [0] rfl)
      · replace hf := zo_f c7 hf
        refine zl_aload_n hx hb zd_X10_again_32 rfl (lv_at hl 0 rfl) ?_
        refine lv_bipush (v := (-6)) hx hb zd_X10_again_33 (by decide) ?_
        replace hf := zo_b hf; obtain ⟨r39, er39, hf⟩ := hf
        refine zw_callV (n := 1) (ci := 10) (q := zc_cl[10]) (As := [.int ((-6))]) (rest := []) S hK hw (zt_X10_no l g r6.1 q (-6) _ er39) zm_1219 zm_1221 zm_24 zq_X10_no zm_79 (by decide +kernel) ⟨Nat.le_of_ble_eq_true rfl, Nat.le_of_ble_eq_true rfl⟩ rfl rfl rfl (zi_X10_no er39) hl.1 rfl (by simp [zv_cat, zv_ci, zv_cj]) zd_X10_again_35 ⟨(Nat.le_refl 0), (Nat.le_refl 0)⟩ (fun H locs hw => ?_)
        replace hw : zc_W g r39.1 H locs := hw
        have hres := Option.some.inj hf; subst hres
        exact zw_iret (v := r39.2) (ty := .int) hx hb hr hlk rfl hw zd_X10_again_38 (Nat.le_refl 0) (Nat.le_refl 0)
    · replace hf := zo_t c5 hf
      exact k16h () _ _ _ hf hw (lv_sub hl [0] rfl)
def zf_X10_draw (h : zc_H) (q : Nat) (x1 : Int32) : Option (zc_H × Int32) :=
  if ¬ zf_is h q 10 = true then none else
  (zf_gi h q 10 8).bind fun v1 =>
  (zf_p h q 10 8 (.int (((v1 * 1103515245) + 12345)))).bind fun h3 =>
  (zf_gi h3 q 10 8).bind fun v4 =>
  if x1 = 0 then none else
  some (h3, ((((v4).toUInt32 >>> ((16 : Int32).toUInt32 &&& Int32.toUInt32 31)).toInt32) - (((v4).toUInt32 >>> ((16 : Int32).toUInt32 &&& Int32.toUInt32 31)).toInt32) / x1 * x1))
abbrev zr_X10_draw : Room := { frames := 0, cells := 0, slots := 0, locals := 0 }
theorem zi_X10_draw {h : zc_H} {q : Nat} {x1 : Int32} {res : zc_H × Int32} (hf : zf_X10_draw h q x1 = some res) : zf_is h q 10 = true := Decidable.not_not.mp (zo_n hf).1
set_option maxHeartbeats 4000000 in
set_option maxRecDepth 20000 in
theorem zt_X10_draw (l : Launch) (g : zc_G) (h : zc_H) (q : Nat) (x1 : Int32) (res : zc_H × Int32) (hf : zf_X10_draw h q x1 = some res) : zc_M l g yX10_draw cX10_draw 2 (some .int) zr_X10_draw h [va_rf ((some q)), .int (x1)] res.1 (some (.int (res.2))) := by
  refine zc_M.of (by decide) (by simp [lg_sl, zv_cat, zv_ci, zv_cj]) ?_
  intro p e s m below meth c ls S hK hw hr hlk hnm hl
  replace S : CallFix p m c cX10_draw 2 s [va_rf ((some q)), .int (x1)].toArray (zc_ws yX10_draw cX10_draw 2 (some .int)) RX10 := S
  have hx := S.1
  have hb := S.2.1
  replace hl : lv_has ls 2 [(0, va_rf ((some q))), (1, .int (x1))] := by simpa [lv_args, zv_cat, zv_ci, zv_cj] using hl
  generalize s.heap = H at hw ⊢
  obtain ⟨locs, hlocs⟩ : ∃ L : List Loc, L = [] := ⟨_, rfl⟩
  rw [← hlocs] at hw ⊢
  unfold zf_X10_draw at hf
  obtain ⟨-, hf⟩ := zo_n hf
  refine zl_aload_n hx hb zd_X10_draw_0 rfl (lv_at hl 0 rfl) ?_
  refine zl_aload_n hx hb zd_X10_draw_1 rfl (lv_at hl 0 rfl) ?_
  replace hf := zo_b hf; obtain ⟨v1, ev1, hf⟩ := hf
  obtain ⟨u2, u2e, u2v⟩ := zo_b ev1
  obtain rfl := zv_i_e u2v
  refine zw_get S hK hw zk_10 (k := 8) (by decide) rfl zm_1096 (Or.inl rfl) u2e zd_X10_draw_2 ?_
  refine lv_ldcw (v := 1103515245) hx hb S.2.2.2.1 (S.2.2.2.2 _ (List.mem_cons_of_mem _ zm_1492)) zd_X10_draw_5 ?_
  refine lv_imul hx hb zd_X10_draw_8 ?_
  refine lv_sipush (v := 12345) hx hb zd_X10_draw_9 (by decide) ?_
  refine lv_iadd hx hb zd_X10_draw_12 ?_
  replace hf := zo_b hf; obtain ⟨h3, eh3, hf⟩ := hf
  refine zw_put S hK hw zk_10 (k := 8) (by decide) rfl zm_1096 (Or.inl rfl) eh3 (ty := .int) (by decide +kernel) rfl rfl zd_X10_draw_13 (fun H locs hw => ?_)
  refine zl_aload_n hx hb zd_X10_draw_16 rfl (lv_at hl 0 rfl) ?_
  replace hf := zo_b hf; obtain ⟨v4, ev4, hf⟩ := hf
  obtain ⟨u5, u5e, u5v⟩ := zo_b ev4
  obtain rfl := zv_i_e u5v
  refine zw_get S hK hw zk_10 (k := 8) (by decide) rfl zm_1096 (Or.inl rfl) u5e zd_X10_draw_17 ?_
  refine lv_bipush (v := 16) hx hb zd_X10_draw_20 (by decide) ?_
  refine lv_iushr (v := (((v4).toUInt32 >>> ((16 : Int32).toUInt32 &&& Int32.toUInt32 31)).toInt32)) hx hb zd_X10_draw_22 rfl ?_
  refine lv_iload_n hx hb zd_X10_draw_23 rfl (lv_at hl 1 rfl) ?_
  replace hf := zo_n hf; obtain ⟨d6, hf⟩ := hf
  refine lv_irem hx hb zd_X10_draw_24 d6 ?_
  have hres := Option.some.inj hf; subst hres
  exact zw_iret (v := ((((v4).toUInt32 >>> ((16 : Int32).toUInt32 &&& Int32.toUInt32 31)).toInt32) - (((v4).toUInt32 >>> ((16 : Int32).toUInt32 &&& Int32.toUInt32 31)).toInt32) / x1 * x1)) (ty := .int) hx hb hr hlk rfl hw zd_X10_draw_25 (Nat.le_refl 0) (Nat.le_refl 0)
def zf_X10_drifts_L205 (q : Nat) (y1 : Int32) (y2 : Int32) (y3 : Int32) (y4 : Int32) (y5 : Int32) (y6 : Int64) : Nat → zc_H → Int32 → Option (zc_H)
  | 0, _, _ => none
  | n + 1, h, y8 =>
    if y8 ≤ 0 then
      some h
    else
    (zf_gr h q 10 3).bind fun v26 =>
    (zf_gr h q 10 3).bind fun v28 =>
    v28.bind fun a30 =>
    (zf_aj h a30 ((y2 + y8) - 1)).bind fun v31 =>
    v26.bind fun a32 =>
    (zf_sj h a32 (y2 + y8) v31).bind fun h33 =>
    zf_X10_drifts_L205 q y1 y2 y3 y4 y5 y6 n h33 (y8 + (-1))
def zf_X10_drifts_L136 (q : Nat) (y1 : Int32) (y2 : Int32) (y3 : Int32) (y4 : Int32) (y5 : Int32) : Nat → zc_H → Int32 → Option (zc_H)
  | 0, _, _ => none
  | n + 1, h, y6 =>
    if (y3 - 1) ≤ y6 then
      some h
    else
    (zf_gr h q 10 3).bind fun v41 =>
    (zf_gr h q 10 3).bind fun v43 =>
    v43.bind fun a45 =>
    (zf_aj h a45 ((y2 + y6) + 1)).bind fun v46 =>
    v41.bind fun a47 =>
    (zf_sj h a47 (y2 + y6) v46).bind fun h48 =>
    zf_X10_drifts_L136 q y1 y2 y3 y4 y5 n h48 (y6 + 1)
def zf_X10_drifts_L60 (q : Nat) (y1 : Int32) (y2 : Int32) (y3 : Int32) (y4 : Int32) (y5 : Int32) : Nat → zc_H → Int32 → Option (zc_H)
  | 0, _, _ => none
  | n + 1, h, y6 =>
    if y6 ≤ y5 then
      some h
    else
    (zf_gr h q 10 3).bind fun v57 =>
    (zf_gr h q 10 3).bind fun v59 =>
    v59.bind fun a61 =>
    (zf_aj h a61 ((y2 + y6) - 1)).bind fun v62 =>
    v57.bind fun a63 =>
    (zf_sj h a63 (y2 + y6) v62).bind fun h64 =>
    zf_X10_drifts_L60 q y1 y2 y3 y4 y5 n h64 (y6 + (-1))
def zf_X10_drifts (h : zc_H) (q : Nat) : Option (zc_H) :=
  if ¬ zf_is h q 10 = true then none else
  (zf_gi h q 10 0).bind fun v1 =>
  (zf_X10_copies h q (v1 - 1)).bind fun r3 =>
  (zf_gr r3 q 10 2).bind fun v4 =>
  v4.bind fun a6 =>
  (zf_ai r3 a6 0 v1).bind fun v7 =>
  (zf_X10_draw r3 q 4).bind fun r8 =>
  let k44 := fun (h44j : zc_H) (s44_0 : Int32) =>
    let k122 := fun (h122j : zc_H) =>
      let k180 := fun (h180j : zc_H) =>
        let k244 := fun (h244j : zc_H) =>
          let k266 := fun (h266j : zc_H) =>
            (zf_X10_comesTo h266j q (v1 - 1)).bind fun r14 =>
            some r14.1
          if r8.2 = 3 then
            if v7 ≤ 0 then
              k266 h244j
            else
            (zf_gr h244j q 10 3).bind fun v16 =>
            v16.bind fun a18 =>
            (zf_sj h244j a18 ((24 * v1) + s44_0) 122).bind fun h19 =>
            k266 h19
          else
          k266 h244j
        if r8.2 = 2 then
          if v7 ≤ 0 then
            k244 h180j
          else
          (zf_gr h180j q 10 3).bind fun v21 =>
          v21.bind fun a23 =>
          (zf_aj h180j a23 ((24 * v1) + s44_0)).bind fun v24 =>
          (zf_X10_drifts_L205 q v1 (24 * v1) v7 r8.2 s44_0 v24 2000 h180j s44_0).bind fun w34 =>
          (zf_gr w34 q 10 3).bind fun v35 =>
          v35.bind fun a37 =>
          (zf_sj w34 a37 (24 * v1) v24).bind fun h38 =>
          k244 h38
        else
        k244 h180j
      if r8.2 = 1 then
        if v7 ≤ 0 then
          k180 h122j
        else
        (zf_X10_drifts_L136 q v1 (24 * v1) v7 r8.2 s44_0 2000 h122j s44_0).bind fun w49 =>
        (zf_gr w49 q 10 2).bind fun v50 =>
        v50.bind fun a52 =>
        (zf_ai w49 a52 0 v1).bind fun v53 =>
        (zf_si w49 a52 0 v1 (v53 - 1)).bind fun h54 =>
        k180 h54
      else
      k180 h122j
    if r8.2 = 0 then
      if 24 ≤ v7 then
        k122 h44j
      else
      (zf_X10_drifts_L60 q v1 (24 * v1) v7 r8.2 s44_0 2000 h44j v7).bind fun w65 =>
      (zf_gr w65 q 10 3).bind fun v66 =>
      (zf_X10_draw w65 q 26).bind fun r68 =>
      v66.bind fun a69 =>
      (zf_sj r68.1 a69 ((24 * v1) + s44_0) (((97 + r68.2) : Int32).toInt64)).bind fun h70 =>
      (zf_gr h70 q 10 2).bind fun v71 =>
      v71.bind fun a73 =>
      (zf_ai h70 a73 0 v1).bind fun v74 =>
      (zf_si h70 a73 0 v1 (v74 + 1)).bind fun h75 =>
      k122 h75
    else
    k122 h44j
  if v7 = 0 then
    k44 r8.1 0
  else
  (zf_X10_draw r8.1 q v7).bind fun r76 =>
  k44 r76.1 r76.2
abbrev zr_X10_drifts : Room := { frames := 6, cells := 0, slots := 0, locals := 143 }
theorem zi_X10_drifts {h : zc_H} {q : Nat} {res : zc_H} (hf : zf_X10_drifts h q = some res) : zf_is h q 10 = true := Decidable.not_not.mp (zo_n hf).1
set_option maxHeartbeats 4000000 in
set_option maxRecDepth 20000 in
theorem zt_X10_drifts (l : Launch) (g : zc_G) (h : zc_H) (q : Nat) (res : zc_H) (hf : zf_X10_drifts h q = some res) : zc_M l g yX10_drifts cX10_drifts 9 none zr_X10_drifts h [va_rf ((some q))] res none := by
  refine zc_M.of (by decide) (by simp [lg_sl, zv_cat, zv_ci, zv_cj]) ?_
  intro p e s m below meth c ls S hK hw hr hlk hnm hl
  replace S : CallFix p m c cX10_drifts 9 s [va_rf ((some q))].toArray (zc_ws yX10_drifts cX10_drifts 9 none) RX10 := S
  have hx := S.1
  have hb := S.2.1
  replace hl : lv_has ls 9 [(0, va_rf ((some q)))] := by simpa [lv_args, zv_cat, zv_ci, zv_cj] using hl
  generalize s.heap = H at hw ⊢
  obtain ⟨locs, hlocs⟩ : ∃ L : List Loc, L = [] := ⟨_, rfl⟩
  rw [← hlocs] at hw ⊢
  have L205 : ∀ (y1 : Int32) (y2 : Int32) (y3 : Int32) (y4 : Int32) (y5 : Int32) (y6 : Int64) (n : Nat) (h : zc_H) (y8 : Int32) (w : zc_H) (H : Heap) (locs : List Loc) (ls : Array Slot), zf_X10_drifts_L205 q y1 y2 y3 y4 y5 y6 n h y8 = some w → zc_W g h H locs → lv_has ls 9 [(0, va_rf ((some q))), (1, .int (y1)), (2, .int (y2)), (3, .int (y3)), (4, .int (y4)), (5, .int (y5)), (6, .long (y6)), (8, .int (y8))] → (∀ (H : Heap) (locs : List Loc) (ls : Array Slot), zc_W g w H locs → lv_has ls 9 [(0, va_rf ((some q))), (1, .int (y1)), (2, .int (y2)), (3, .int (y3)), (4, .int (y4)), (5, .int (y5)), (6, .long (y6))] → W p l e zr_X10_drifts s m [va_rf ((some q))].toArray below meth c H locs 0 0 (zc_Q g below zr_X10_drifts none res [va_rf ((some q))] s) (F0 m 236 ls [])) → W p l e zr_X10_drifts s m [va_rf ((some q))].toArray below meth c H locs 0 0 (zc_Q g below zr_X10_drifts none res [va_rf ((some q))] s) (F0 m 205 ls []) := by
    intro y1 y2 y3 y4 y5 y6 n
    induction n with
    | zero =>
      intro h y8 w H locs ls hf
      cases hf
    | succ n ih =>
      intro h y8 w H locs ls hf hw hl  kk
      unfold zf_X10_drifts_L205 at hf
      refine lv_iload hx hb zd_X10_drifts_205 (lv_at hl 7 rfl) ?_
      refine lv_if_le (tgt := 236) hx hb zd_X10_drifts_207 (by decide) (fun c25 => ?_) (fun c25 => ?_)
      · replace hf := zo_t c25 hf
        have hres := Option.some.inj hf; subst hres
        exact kk _ _ _ hw (lv_sub hl [0, 1, 2, 3, 4, 5, 6] rfl)
      · replace hf := zo_f c25 hf
        refine zl_aload_n hx hb zd_X10_drifts_210 rfl (lv_at hl 0 rfl) ?_
        replace hf := zo_b hf; obtain ⟨v26, ev26, hf⟩ := hf
        obtain ⟨u27, u27e, u27v⟩ := zo_b ev26
        obtain rfl := zv_r_e u27v
        refine zw_get S hK hw zk_10 (k := 3) (by decide) rfl zm_1091 (Or.inl rfl) u27e zd_X10_drifts_211 ?_
        refine lv_iload_n hx hb zd_X10_drifts_214 rfl (lv_at hl 2 rfl) ?_
        refine lv_iload hx hb zd_X10_drifts_215 (lv_at hl 7 rfl) ?_
        refine lv_iadd hx hb zd_X10_drifts_217 ?_
        refine zl_aload_n hx hb zd_X10_drifts_218 rfl (lv_at hl 0 rfl) ?_
        replace hf := zo_b hf; obtain ⟨v28, ev28, hf⟩ := hf
        obtain ⟨u29, u29e, u29v⟩ := zo_b ev28
        obtain rfl := zv_r_e u29v
        refine zw_get S hK hw zk_10 (k := 3) (by decide) rfl zm_1091 (Or.inl rfl) u29e zd_X10_drifts_219 ?_
        refine lv_iload_n hx hb zd_X10_drifts_222 rfl (lv_at hl 2 rfl) ?_
        refine lv_iload hx hb zd_X10_drifts_223 (lv_at hl 7 rfl) ?_
        refine lv_iadd hx hb zd_X10_drifts_225 ?_
        refine lv_iconst (v := 1) hx hb zd_X10_drifts_226 (by decide) ?_
        refine lv_isub hx hb zd_X10_drifts_227 ?_
        replace hf := zo_b hf; obtain ⟨a30, na30, hf⟩ := hf
        refine W.eq (g2 := F0 m 228 ls [.int (((y2 + y8) - 1)), va_rf ((some a30)), .int ((y2 + y8)), va_rf (v26)]) (by rw [na30] <;> rfl) ?_
        replace hf := zo_b hf; obtain ⟨v31, ev31, hf⟩ := hf
        refine zw_lald S hK hw ev31 zd_X10_drifts_228 ?_
        replace hf := zo_b hf; obtain ⟨a32, na32, hf⟩ := hf
        refine W.eq (g2 := F0 m 229 ls [.long (v31), .int ((y2 + y8)), va_rf ((some a32))]) (by rw [na32] <;> rfl) ?_
        replace hf := zo_b hf; obtain ⟨h33, eh33, hf⟩ := hf
        refine zw_last S hK hw eh33 zd_X10_drifts_229 (fun H locs hw => ?_)
        refine lv_iinc (i := 8) (v := (y8 + (-1))) (lv' := [(8, .int ((y8 + (-1)))), (0, va_rf ((some q))), (1, .int (y1)), (2, .int (y2)), (3, .int (y3)), (4, .int (y4)), (5, .int (y5)), (6, .long (y6))]) hx hb zd_X10_drifts_230 hl (k := 7) rfl (congrArg (_ + ·) (by decide)) (by decide) rfl (fun ls hl => ?_)
        refine lv_goto (tgt := 205) hx hb zd_X10_drifts_233 (by decide) ?_
        exact ih h33 (y8 + (-1)) _ _ _ _ hf hw (lv_sub hl [1, 2, 3, 4, 5, 6, 7, 0] rfl) kk
  have L136 : ∀ (y1 : Int32) (y2 : Int32) (y3 : Int32) (y4 : Int32) (y5 : Int32) (n : Nat) (h : zc_H) (y6 : Int32) (w : zc_H) (H : Heap) (locs : List Loc) (ls : Array Slot), zf_X10_drifts_L136 q y1 y2 y3 y4 y5 n h y6 = some w → zc_W g h H locs → lv_has ls 9 [(0, va_rf ((some q))), (1, .int (y1)), (2, .int (y2)), (3, .int (y3)), (4, .int (y4)), (5, .int (y5)), (6, .int (y6))] → (∀ (H : Heap) (locs : List Loc) (ls : Array Slot), zc_W g w H locs → lv_has ls 9 [(0, va_rf ((some q))), (1, .int (y1)), (2, .int (y2)), (3, .int (y3)), (4, .int (y4)), (5, .int (y5))] → W p l e zr_X10_drifts s m [va_rf ((some q))].toArray below meth c H locs 0 0 (zc_Q g below zr_X10_drifts none res [va_rf ((some q))] s) (F0 m 170 ls [])) → W p l e zr_X10_drifts s m [va_rf ((some q))].toArray below meth c H locs 0 0 (zc_Q g below zr_X10_drifts none res [va_rf ((some q))] s) (F0 m 136 ls []) := by
    intro y1 y2 y3 y4 y5 n
    induction n with
    | zero =>
      intro h y6 w H locs ls hf
      cases hf
    | succ n ih =>
      intro h y6 w H locs ls hf hw hl  kk
      unfold zf_X10_drifts_L136 at hf
      refine lv_iload hx hb zd_X10_drifts_136 (lv_at hl 6 rfl) ?_
      refine lv_iload_n hx hb zd_X10_drifts_138 rfl (lv_at hl 3 rfl) ?_
      refine lv_iconst (v := 1) hx hb zd_X10_drifts_139 (by decide) ?_
      refine lv_isub hx hb zd_X10_drifts_140 ?_
      refine lv_icmp_ge (tgt := 170) hx hb zd_X10_drifts_141 (by decide) (fun c40 => ?_) (fun c40 => ?_)
      · replace hf := zo_t c40 hf
        have hres := Option.some.inj hf; subst hres
        exact kk _ _ _ hw (lv_sub hl [0, 1, 2, 3, 4, 5] rfl)
      · replace hf := zo_f c40 hf
        refine zl_aload_n hx hb zd_X10_drifts_144 rfl (lv_at hl 0 rfl) ?_
        replace hf := zo_b hf; obtain ⟨v41, ev41, hf⟩ := hf
        obtain ⟨u42, u42e, u42v⟩ := zo_b ev41
        obtain rfl := zv_r_e u42v
        refine zw_get S hK hw zk_10 (k := 3) (by decide) rfl zm_1091 (Or.inl rfl) u42e zd_X10_drifts_145 ?_
        refine lv_iload_n hx hb zd_X10_drifts_148 rfl (lv_at hl 2 rfl) ?_
        refine lv_iload hx hb zd_X10_drifts_149 (lv_at hl 6 rfl) ?_
        refine lv_iadd hx hb zd_X10_drifts_151 ?_
        refine zl_aload_n hx hb zd_X10_drifts_152 rfl (lv_at hl 0 rfl) ?_
        replace hf := zo_b hf; obtain ⟨v43, ev43, hf⟩ := hf
        obtain ⟨u44, u44e, u44v⟩ := zo_b ev43
        obtain rfl := zv_r_e u44v
        refine zw_get S hK hw zk_10 (k := 3) (by decide) rfl zm_1091 (Or.inl rfl) u44e zd_X10_drifts_153 ?_
        refine lv_iload_n hx hb zd_X10_drifts_156 rfl (lv_at hl 2 rfl) ?_
        refine lv_iload hx hb zd_X10_drifts_157 (lv_at hl 6 rfl) ?_
        refine lv_iadd hx hb zd_X10_drifts_159 ?_
        refine lv_iconst (v := 1) hx hb zd_X10_drifts_160 (by decide) ?_
        refine lv_iadd hx hb zd_X10_drifts_161 ?_
        replace hf := zo_b hf; obtain ⟨a45, na45, hf⟩ := hf
        refine W.eq (g2 := F0 m 162 ls [.int (((y2 + y6) + 1)), va_rf ((some a45)), .int ((y2 + y6)), va_rf (v41)]) (by rw [na45] <;> rfl) ?_
        replace hf := zo_b hf; obtain ⟨v46, ev46, hf⟩ := hf
        refine zw_lald S hK hw ev46 zd_X10_drifts_162 ?_
        replace hf := zo_b hf; obtain ⟨a47, na47, hf⟩ := hf
        refine W.eq (g2 := F0 m 163 ls [.long (v46), .int ((y2 + y6)), va_rf ((some a47))]) (by rw [na47] <;> rfl) ?_
        replace hf := zo_b hf; obtain ⟨h48, eh48, hf⟩ := hf
        refine zw_last S hK hw eh48 zd_X10_drifts_163 (fun H locs hw => ?_)
        refine lv_iinc (i := 6) (v := (y6 + 1)) (lv' := [(6, .int ((y6 + 1))), (0, va_rf ((some q))), (1, .int (y1)), (2, .int (y2)), (3, .int (y3)), (4, .int (y4)), (5, .int (y5))]) hx hb zd_X10_drifts_164 hl (k := 6) rfl (congrArg (_ + ·) (by decide)) (by decide) rfl (fun ls hl => ?_)
        refine lv_goto (tgt := 136) hx hb zd_X10_drifts_167 (by decide) ?_
        exact ih h48 (y6 + 1) _ _ _ _ hf hw (lv_sub hl [1, 2, 3, 4, 5, 6, 0] rfl) kk
  have L60 : ∀ (y1 : Int32) (y2 : Int32) (y3 : Int32) (y4 : Int32) (y5 : Int32) (n : Nat) (h : zc_H) (y6 : Int32) (w : zc_H) (H : Heap) (locs : List Loc) (ls : Array Slot), zf_X10_drifts_L60 q y1 y2 y3 y4 y5 n h y6 = some w → zc_W g h H locs → lv_has ls 9 [(0, va_rf ((some q))), (1, .int (y1)), (2, .int (y2)), (3, .int (y3)), (4, .int (y4)), (5, .int (y5)), (6, .int (y6))] → (∀ (H : Heap) (locs : List Loc) (ls : Array Slot), zc_W g w H locs → lv_has ls 9 [(0, va_rf ((some q))), (1, .int (y1)), (2, .int (y2)), (3, .int (y3)), (4, .int (y4)), (5, .int (y5))] → W p l e zr_X10_drifts s m [va_rf ((some q))].toArray below meth c H locs 0 0 (zc_Q g below zr_X10_drifts none res [va_rf ((some q))] s) (F0 m 93 ls [])) → W p l e zr_X10_drifts s m [va_rf ((some q))].toArray below meth c H locs 0 0 (zc_Q g below zr_X10_drifts none res [va_rf ((some q))] s) (F0 m 60 ls []) := by
    intro y1 y2 y3 y4 y5 n
    induction n with
    | zero =>
      intro h y6 w H locs ls hf
      cases hf
    | succ n ih =>
      intro h y6 w H locs ls hf hw hl  kk
      unfold zf_X10_drifts_L60 at hf
      refine lv_iload hx hb zd_X10_drifts_60 (lv_at hl 6 rfl) ?_
      refine lv_iload hx hb zd_X10_drifts_62 (lv_at hl 5 rfl) ?_
      refine lv_icmp_le (tgt := 93) hx hb zd_X10_drifts_64 (by decide) (fun c56 => ?_) (fun c56 => ?_)
      · replace hf := zo_t c56 hf
        have hres := Option.some.inj hf; subst hres
        exact kk _ _ _ hw (lv_sub hl [0, 1, 2, 3, 4, 5] rfl)
      · replace hf := zo_f c56 hf
        refine zl_aload_n hx hb zd_X10_drifts_67 rfl (lv_at hl 0 rfl) ?_
        replace hf := zo_b hf; obtain ⟨v57, ev57, hf⟩ := hf
        obtain ⟨u58, u58e, u58v⟩ := zo_b ev57
        obtain rfl := zv_r_e u58v
        refine zw_get S hK hw zk_10 (k := 3) (by decide) rfl zm_1091 (Or.inl rfl) u58e zd_X10_drifts_68 ?_
        refine lv_iload_n hx hb zd_X10_drifts_71 rfl (lv_at hl 2 rfl) ?_
        refine lv_iload hx hb zd_X10_drifts_72 (lv_at hl 6 rfl) ?_
        refine lv_iadd hx hb zd_X10_drifts_74 ?_
        refine zl_aload_n hx hb zd_X10_drifts_75 rfl (lv_at hl 0 rfl) ?_
        replace hf := zo_b hf; obtain ⟨v59, ev59, hf⟩ := hf
        obtain ⟨u60, u60e, u60v⟩ := zo_b ev59
        obtain rfl := zv_r_e u60v
        refine zw_get S hK hw zk_10 (k := 3) (by decide) rfl zm_1091 (Or.inl rfl) u60e zd_X10_drifts_76 ?_
        refine lv_iload_n hx hb zd_X10_drifts_79 rfl (lv_at hl 2 rfl) ?_
        refine lv_iload hx hb zd_X10_drifts_80 (lv_at hl 6 rfl) ?_
        refine lv_iadd hx hb zd_X10_drifts_82 ?_
        refine lv_iconst (v := 1) hx hb zd_X10_drifts_83 (by decide) ?_
        refine lv_isub hx hb zd_X10_drifts_84 ?_
        replace hf := zo_b hf; obtain ⟨a61, na61, hf⟩ := hf
        refine W.eq (g2 := F0 m 85 ls [.int (((y2 + y6) - 1)), va_rf ((some a61)), .int ((y2 + y6)), va_rf (v57)]) (by rw [na61] <;> rfl) ?_
        replace hf := zo_b hf; obtain ⟨v62, ev62, hf⟩ := hf
        refine zw_lald S hK hw ev62 zd_X10_drifts_85 ?_
        replace hf := zo_b hf; obtain ⟨a63, na63, hf⟩ := hf
        refine W.eq (g2 := F0 m 86 ls [.long (v62), .int ((y2 + y6)), va_rf ((some a63))]) (by rw [na63] <;> rfl) ?_
        replace hf := zo_b hf; obtain ⟨h64, eh64, hf⟩ := hf
        refine zw_last S hK hw eh64 zd_X10_drifts_86 (fun H locs hw => ?_)
        refine lv_iinc (i := 6) (v := (y6 + (-1))) (lv' := [(6, .int ((y6 + (-1)))), (0, va_rf ((some q))), (1, .int (y1)), (2, .int (y2)), (3, .int (y3)), (4, .int (y4)), (5, .int (y5))]) hx hb zd_X10_drifts_87 hl (k := 6) rfl (congrArg (_ + ·) (by decide)) (by decide) rfl (fun ls hl => ?_)
        refine lv_goto (tgt := 60) hx hb zd_X10_drifts_90 (by decide) ?_
        exact ih h64 (y6 + (-1)) _ _ _ _ hf hw (lv_sub hl [1, 2, 3, 4, 5, 6, 0] rfl) kk
  unfold zf_X10_drifts at hf
  obtain ⟨-, hf⟩ := zo_n hf
  refine zl_aload_n hx hb zd_X10_drifts_0 rfl (lv_at hl 0 rfl) ?_
  replace hf := zo_b hf; obtain ⟨v1, ev1, hf⟩ := hf
  obtain ⟨u2, u2e, u2v⟩ := zo_b ev1
  obtain rfl := zv_i_e u2v
  refine zw_get S hK hw zk_10 (k := 0) (by decide) rfl zm_1088 (Or.inl rfl) u2e zd_X10_drifts_1 ?_
  refine lv_istore_n (i := 1) (lv' := [(1, .int (v1)), (0, va_rf ((some q)))]) hx hb zd_X10_drifts_4 rfl hl (by decide) rfl (fun ls hl => ?_)
  refine lv_bipush (v := 24) hx hb zd_X10_drifts_5 (by decide) ?_
  refine lv_iload_n hx hb zd_X10_drifts_7 rfl (lv_at hl 0 rfl) ?_
  refine lv_imul hx hb zd_X10_drifts_8 ?_
  refine lv_istore_n (i := 2) (lv' := [(2, .int ((24 * v1))), (1, .int (v1)), (0, va_rf ((some q)))]) hx hb zd_X10_drifts_9 rfl hl (by decide) rfl (fun ls hl => ?_)
  refine zl_aload_n hx hb zd_X10_drifts_10 rfl (lv_at hl 2 rfl) ?_
  refine lv_iload_n hx hb zd_X10_drifts_11 rfl (lv_at hl 1 rfl) ?_
  refine lv_iconst (v := 1) hx hb zd_X10_drifts_12 (by decide) ?_
  refine lv_isub hx hb zd_X10_drifts_13 ?_
  replace hf := zo_b hf; obtain ⟨r3, er3, hf⟩ := hf
  refine zw_callV (n := 1) (ci := 10) (q := zc_cl[10]) (As := [.int ((v1 - 1))]) (rest := []) S hK hw (zt_X10_copies l g h q (v1 - 1) _ er3) zm_1476 zm_1478 zm_58 zq_X10_copies zm_79 (by decide +kernel) ⟨Nat.le_of_ble_eq_true rfl, Nat.le_of_ble_eq_true rfl⟩ rfl rfl rfl (zi_X10_copies er3) hl.1 rfl (by simp [zv_cat, zv_ci, zv_cj]) zd_X10_drifts_14 ⟨(Nat.le_refl 0), (Nat.le_refl 0)⟩ (fun H locs hw => ?_)
  replace hw : zc_W g r3 H locs := hw
  refine zl_aload_n hx hb zd_X10_drifts_17 rfl (lv_at hl 2 rfl) ?_
  replace hf := zo_b hf; obtain ⟨v4, ev4, hf⟩ := hf
  obtain ⟨u5, u5e, u5v⟩ := zo_b ev4
  obtain rfl := zv_r_e u5v
  refine zw_get S hK hw zk_10 (k := 2) (by decide) rfl zm_1090 (Or.inl rfl) u5e zd_X10_drifts_18 ?_
  refine lv_iload_n hx hb zd_X10_drifts_21 rfl (lv_at hl 1 rfl) ?_
  replace hf := zo_b hf; obtain ⟨a6, na6, hf⟩ := hf
  refine W.eq (g2 := F0 m 22 ls [.int (v1), va_rf ((some a6))]) (by rw [na6] <;> rfl) ?_
  replace hf := zo_b hf; obtain ⟨v7, ev7, hf⟩ := hf
  refine zw_iald S hK hw ev7 zd_X10_drifts_22 ?_
  refine lv_istore_n (i := 3) (lv' := [(3, .int (v7)), (2, .int ((24 * v1))), (1, .int (v1)), (0, va_rf ((some q)))]) hx hb zd_X10_drifts_23 rfl hl (by decide) rfl (fun ls hl => ?_)
  refine zl_aload_n hx hb zd_X10_drifts_24 rfl (lv_at hl 3 rfl) ?_
  refine lv_iconst (v := 4) hx hb zd_X10_drifts_25 (by decide) ?_
  replace hf := zo_b hf; obtain ⟨r8, er8, hf⟩ := hf
  refine zw_callV (n := 1) (ci := 10) (q := zc_cl[10]) (As := [.int (4)]) (rest := []) S hK hw (zt_X10_draw l g r3 q 4 _ er8) zm_1488 zm_1490 zm_60 zq_X10_draw zm_79 (by decide +kernel) ⟨Nat.le_of_ble_eq_true rfl, Nat.le_of_ble_eq_true rfl⟩ rfl rfl rfl (zi_X10_draw er8) hl.1 rfl (by simp [zv_cat, zv_ci, zv_cj]) zd_X10_drifts_26 ⟨(Nat.le_refl 0), (Nat.le_refl 0)⟩ (fun H locs hw => ?_)
  replace hw : zc_W g r8.1 H locs := hw
  refine lv_istore (i := 4) (lv' := [(4, .int (r8.2)), (3, .int (v7)), (2, .int ((24 * v1))), (1, .int (v1)), (0, va_rf ((some q)))]) hx hb zd_X10_drifts_29 hl (by decide) rfl (fun ls hl => ?_)
  refine lv_iload_n hx hb zd_X10_drifts_31 rfl (lv_at hl 1 rfl) ?_
  have k44h : ∀ (h44j : zc_H) (s44_0 : Int32) (H : Heap) (locs : List Loc) (ls : Array Slot), (
      let k122 := fun (h122j : zc_H) =>
        let k180 := fun (h180j : zc_H) =>
          let k244 := fun (h244j : zc_H) =>
            let k266 := fun (h266j : zc_H) =>
              (zf_X10_comesTo h266j q (v1 - 1)).bind fun r14 =>
              some r14.1
            if r8.2 = 3 then
              if v7 ≤ 0 then
                k266 h244j
              else
              (zf_gr h244j q 10 3).bind fun v16 =>
              v16.bind fun a18 =>
              (zf_sj h244j a18 ((24 * v1) + s44_0) 122).bind fun h19 =>
              k266 h19
            else
            k266 h244j
          if r8.2 = 2 then
            if v7 ≤ 0 then
              k244 h180j
            else
            (zf_gr h180j q 10 3).bind fun v21 =>
            v21.bind fun a23 =>
            (zf_aj h180j a23 ((24 * v1) + s44_0)).bind fun v24 =>
            (zf_X10_drifts_L205 q v1 (24 * v1) v7 r8.2 s44_0 v24 2000 h180j s44_0).bind fun w34 =>
            (zf_gr w34 q 10 3).bind fun v35 =>
            v35.bind fun a37 =>
            (zf_sj w34 a37 (24 * v1) v24).bind fun h38 =>
            k244 h38
          else
          k244 h180j
        if r8.2 = 1 then
          if v7 ≤ 0 then
            k180 h122j
          else
          (zf_X10_drifts_L136 q v1 (24 * v1) v7 r8.2 s44_0 2000 h122j s44_0).bind fun w49 =>
          (zf_gr w49 q 10 2).bind fun v50 =>
          v50.bind fun a52 =>
          (zf_ai w49 a52 0 v1).bind fun v53 =>
          (zf_si w49 a52 0 v1 (v53 - 1)).bind fun h54 =>
          k180 h54
        else
        k180 h122j
      if r8.2 = 0 then
        if 24 ≤ v7 then
          k122 h44j
        else
        (zf_X10_drifts_L60 q v1 (24 * v1) v7 r8.2 s44_0 2000 h44j v7).bind fun w65 =>
        (zf_gr w65 q 10 3).bind fun v66 =>
        (zf_X10_draw w65 q 26).bind fun r68 =>
        v66.bind fun a69 =>
        (zf_sj r68.1 a69 ((24 * v1) + s44_0) (((97 + r68.2) : Int32).toInt64)).bind fun h70 =>
        (zf_gr h70 q 10 2).bind fun v71 =>
        v71.bind fun a73 =>
        (zf_ai h70 a73 0 v1).bind fun v74 =>
        (zf_si h70 a73 0 v1 (v74 + 1)).bind fun h75 =>
        k122 h75
      else
      k122 h44j
      ) = some res → zc_W g h44j H locs → lv_has ls 9 [(0, va_rf ((some q))), (1, .int (v1)), (2, .int ((24 * v1))), (3, .int (v7)), (4, .int (r8.2))] → W p l e zr_X10_drifts s m [va_rf ((some q))].toArray below meth c H locs ((0 + 0) + 0) ((0 + 0) + 0) (zc_Q g below zr_X10_drifts none res [va_rf ((some q))] s) (F0 m 44 ls [.int (s44_0)]) := by
    intro h44j s44_0 H locs ls hf hw hl
    refine lv_istore (i := 5) (lv' := [(5, .int (s44_0)), (0, va_rf ((some q))), (1, .int (v1)), (2, .int ((24 * v1))), (3, .int (v7)), (4, .int (r8.2))]) hx hb zd_X10_drifts_44 hl (by decide) rfl (fun ls hl => ?_)
    refine lv_iload hx hb zd_X10_drifts_46 (lv_at hl 5 rfl) ?_
    have k122h : ∀ (h122j : zc_H) (H : Heap) (locs : List Loc) (ls : Array Slot), (
        let k180 := fun (h180j : zc_H) =>
          let k244 := fun (h244j : zc_H) =>
            let k266 := fun (h266j : zc_H) =>
              (zf_X10_comesTo h266j q (v1 - 1)).bind fun r14 =>
              some r14.1
            if r8.2 = 3 then
              if v7 ≤ 0 then
                k266 h244j
              else
              (zf_gr h244j q 10 3).bind fun v16 =>
              v16.bind fun a18 =>
              (zf_sj h244j a18 ((24 * v1) + s44_0) 122).bind fun h19 =>
              k266 h19
            else
            k266 h244j
          if r8.2 = 2 then
            if v7 ≤ 0 then
              k244 h180j
            else
            (zf_gr h180j q 10 3).bind fun v21 =>
            v21.bind fun a23 =>
            (zf_aj h180j a23 ((24 * v1) + s44_0)).bind fun v24 =>
            (zf_X10_drifts_L205 q v1 (24 * v1) v7 r8.2 s44_0 v24 2000 h180j s44_0).bind fun w34 =>
            (zf_gr w34 q 10 3).bind fun v35 =>
            v35.bind fun a37 =>
            (zf_sj w34 a37 (24 * v1) v24).bind fun h38 =>
            k244 h38
          else
          k244 h180j
        if r8.2 = 1 then
          if v7 ≤ 0 then
            k180 h122j
          else
          (zf_X10_drifts_L136 q v1 (24 * v1) v7 r8.2 s44_0 2000 h122j s44_0).bind fun w49 =>
          (zf_gr w49 q 10 2).bind fun v50 =>
          v50.bind fun a52 =>
          (zf_ai w49 a52 0 v1).bind fun v53 =>
          (zf_si w49 a52 0 v1 (v53 - 1)).bind fun h54 =>
          k180 h54
        else
        k180 h122j
        ) = some res → zc_W g h122j H locs → lv_has ls 9 [(0, va_rf ((some q))), (1, .int (v1)), (2, .int ((24 * v1))), (3, .int (v7)), (4, .int (r8.2)), (5, .int (s44_0))] → W p l e zr_X10_drifts s m [va_rf ((some q))].toArray below meth c H locs ((0 + 0) + 0) ((0 + 0) + 0) (zc_Q g below zr_X10_drifts none res [va_rf ((some q))] s) (F0 m 122 ls []) := by
      intro h122j H locs ls hf hw hl
      refine lv_iload hx hb zd_X10_drifts_122 (lv_at hl 4 rfl) ?_
      refine lv_iconst (v := 1) hx hb zd_X10_drifts_124 (by decide) ?_
      have k180h : ∀ (h180j : zc_H) (H : Heap) (locs : List Loc) (ls : Array Slot), (
          let k244 := fun (h244j : zc_H) =>
            let k266 := fun (h266j : zc_H) =>
              (zf_X10_comesTo h266j q (v1 - 1)).bind fun r14 =>
              some r14.1
            if r8.2 = 3 then
              if v7 ≤ 0 then
                k266 h244j
              else
              (zf_gr h244j q 10 3).bind fun v16 =>
              v16.bind fun a18 =>
              (zf_sj h244j a18 ((24 * v1) + s44_0) 122).bind fun h19 =>
              k266 h19
            else
            k266 h244j
          if r8.2 = 2 then
            if v7 ≤ 0 then
              k244 h180j
            else
            (zf_gr h180j q 10 3).bind fun v21 =>
            v21.bind fun a23 =>
            (zf_aj h180j a23 ((24 * v1) + s44_0)).bind fun v24 =>
            (zf_X10_drifts_L205 q v1 (24 * v1) v7 r8.2 s44_0 v24 2000 h180j s44_0).bind fun w34 =>
            (zf_gr w34 q 10 3).bind fun v35 =>
            v35.bind fun a37 =>
            (zf_sj w34 a37 (24 * v1) v24).bind fun h38 =>
            k244 h38
          else
          k244 h180j
          ) = some res → zc_W g h180j H locs → lv_has ls 9 [(0, va_rf ((some q))), (1, .int (v1)), (2, .int ((24 * v1))), (3, .int (v7)), (4, .int (r8.2)), (5, .int (s44_0))] → W p l e zr_X10_drifts s m [va_rf ((some q))].toArray below meth c H locs ((0 + 0) + 0) ((0 + 0) + 0) (zc_Q g below zr_X10_drifts none res [va_rf ((some q))] s) (F0 m 180 ls []) := by
        intro h180j H locs ls hf hw hl
        refine lv_iload hx hb zd_X10_drifts_180 (lv_at hl 4 rfl) ?_
        refine lv_iconst (v := 2) hx hb zd_X10_drifts_182 (by decide) ?_
        have k244h : ∀ (h244j : zc_H) (H : Heap) (locs : List Loc) (ls : Array Slot), (
            let k266 := fun (h266j : zc_H) =>
              (zf_X10_comesTo h266j q (v1 - 1)).bind fun r14 =>
              some r14.1
            if r8.2 = 3 then
              if v7 ≤ 0 then
                k266 h244j
              else
              (zf_gr h244j q 10 3).bind fun v16 =>
              v16.bind fun a18 =>
              (zf_sj h244j a18 ((24 * v1) + s44_0) 122).bind fun h19 =>
              k266 h19
            else
            k266 h244j
            ) = some res → zc_W g h244j H locs → lv_has ls 9 [(0, va_rf ((some q))), (1, .int (v1)), (2, .int ((24 * v1))), (3, .int (v7)), (4, .int (r8.2)), (5, .int (s44_0))] → W p l e zr_X10_drifts s m [va_rf ((some q))].toArray below meth c H locs ((0 + 0) + 0) ((0 + 0) + 0) (zc_Q g below zr_X10_drifts none res [va_rf ((some q))] s) (F0 m 244 ls []) := by
          intro h244j H locs ls hf hw hl
          refine lv_iload hx hb zd_X10_drifts_244 (lv_at hl 4 rfl) ?_
          refine lv_iconst (v := 3) hx hb zd_X10_drifts_246 (by decide) ?_
          have k266h : ∀ (h266j : zc_H) (H : Heap) (locs : List Loc) (ls : Array Slot), (
              (zf_X10_comesTo h266j q (v1 - 1)).bind fun r14 =>
              some r14.1
              ) = some res → zc_W g h266j H locs → lv_has ls 9 [(0, va_rf ((some q))), (1, .int (v1))] → W p l e zr_X10_drifts s m [va_rf ((some q))].toArray below meth c H locs ((0 + 0) + 0) ((0 + 0) + 0) (zc_Q g below zr_X10_drifts none res [va_rf ((some q))] s) (F0 m 266 ls []) := by
            intro h266j H locs ls hf hw hl
            refine zl_aload_n hx hb zd_X10_drifts_266 rfl (lv_at hl 0 rfl) ?_
            refine lv_iload_n hx hb zd_X10_drifts_267 rfl (lv_at hl 1 rfl) ?_
            refine lv_iconst (v := 1) hx hb zd_X10_drifts_268 (by decide) ?_
            refine lv_isub hx hb zd_X10_drifts_269 ?_
            replace hf := zo_b hf; obtain ⟨r14, er14, hf⟩ := hf
            refine zw_callV (n := 1) (ci := 10) (q := zc_cl[10]) (As := [.int ((v1 - 1))]) (rest := []) S hK hw (zt_X10_comesTo l g h266j q (v1 - 1) _ er14) zm_1285 zm_1287 zm_32 zq_X10_comesTo zm_79 (by decide +kernel) ⟨Nat.le_of_ble_eq_true rfl, Nat.le_of_ble_eq_true rfl⟩ rfl rfl rfl (zi_X10_comesTo er14) hl.1 rfl (by simp [zv_cat, zv_ci, zv_cj]) zd_X10_drifts_270 ⟨(Nat.le_refl 0), (Nat.le_refl 0)⟩ (fun H locs hw => ?_)
            replace hw : zc_W g r14.1 H locs := hw
            refine lv_pop hx hb zd_X10_drifts_273 rfl ?_
            have hres := Option.some.inj hf; subst hres
            exact zw_vret hx hb hr hlk hw zd_X10_drifts_274 (Nat.le_refl 0) (Nat.le_refl 0)
          refine lv_icmp_ne (tgt := 266) hx hb zd_X10_drifts_247 (by decide) (fun c13 => ?_) (fun c13 => ?_)
          · replace hf := zo_f c13 hf
            exact k266h h244j _ _ _ hf hw (lv_sub hl [0, 1] rfl)
          · replace hf := zo_t c13 hf
            refine lv_iload_n hx hb zd_X10_drifts_250 rfl (lv_at hl 3 rfl) ?_
            refine lv_if_le (tgt := 266) hx hb zd_X10_drifts_251 (by decide) (fun c15 => ?_) (fun c15 => ?_)
            · replace hf := zo_t c15 hf
              exact k266h h244j _ _ _ hf hw (lv_sub hl [0, 1] rfl)
            · replace hf := zo_f c15 hf
              refine zl_aload_n hx hb zd_X10_drifts_254 rfl (lv_at hl 0 rfl) ?_
              replace hf := zo_b hf; obtain ⟨v16, ev16, hf⟩ := hf
              obtain ⟨u17, u17e, u17v⟩ := zo_b ev16
              obtain rfl := zv_r_e u17v
              refine zw_get S hK hw zk_10 (k := 3) (by decide) rfl zm_1091 (Or.inl rfl) u17e zd_X10_drifts_255 ?_
              refine lv_iload_n hx hb zd_X10_drifts_258 rfl (lv_at hl 2 rfl) ?_
              refine lv_iload hx hb zd_X10_drifts_259 (lv_at hl 5 rfl) ?_
              refine lv_iadd hx hb zd_X10_drifts_261 ?_
              refine lv_ldc2 (v := 122) hx hb S.2.2.2.1 (S.2.2.2.2 _ (List.mem_cons_of_mem _ zm_1493)) zd_X10_drifts_262 ?_
              replace hf := zo_b hf; obtain ⟨a18, na18, hf⟩ := hf
              refine W.eq (g2 := F0 m 265 ls [.long (122), .int (((24 * v1) + s44_0)), va_rf ((some a18))]) (by rw [na18] <;> rfl) ?_
              replace hf := zo_b hf; obtain ⟨h19, eh19, hf⟩ := hf
              refine zw_last S hK hw eh19 zd_X10_drifts_265 (fun H locs hw => ?_)
              exact k266h h19 _ _ _ hf hw (lv_sub hl [0, 1] rfl)
        refine lv_icmp_ne (tgt := 244) hx hb zd_X10_drifts_183 (by decide) (fun c12 => ?_) (fun c12 => ?_)
        · replace hf := zo_f c12 hf
          exact k244h h180j _ _ _ hf hw (lv_sub hl [0, 1, 2, 3, 4, 5] rfl)
        · replace hf := zo_t c12 hf
          refine lv_iload_n hx hb zd_X10_drifts_186 rfl (lv_at hl 3 rfl) ?_
          refine lv_if_le (tgt := 244) hx hb zd_X10_drifts_187 (by decide) (fun c20 => ?_) (fun c20 => ?_)
          · replace hf := zo_t c20 hf
            exact k244h h180j _ _ _ hf hw (lv_sub hl [0, 1, 2, 3, 4, 5] rfl)
          · replace hf := zo_f c20 hf
            refine zl_aload_n hx hb zd_X10_drifts_190 rfl (lv_at hl 0 rfl) ?_
            replace hf := zo_b hf; obtain ⟨v21, ev21, hf⟩ := hf
            obtain ⟨u22, u22e, u22v⟩ := zo_b ev21
            obtain rfl := zv_r_e u22v
            refine zw_get S hK hw zk_10 (k := 3) (by decide) rfl zm_1091 (Or.inl rfl) u22e zd_X10_drifts_191 ?_
            refine lv_iload_n hx hb zd_X10_drifts_194 rfl (lv_at hl 2 rfl) ?_
            refine lv_iload hx hb zd_X10_drifts_195 (lv_at hl 5 rfl) ?_
            refine lv_iadd hx hb zd_X10_drifts_197 ?_
            replace hf := zo_b hf; obtain ⟨a23, na23, hf⟩ := hf
            refine W.eq (g2 := F0 m 198 ls [.int (((24 * v1) + s44_0)), va_rf ((some a23))]) (by rw [na23] <;> rfl) ?_
            replace hf := zo_b hf; obtain ⟨v24, ev24, hf⟩ := hf
            refine zw_lald S hK hw ev24 zd_X10_drifts_198 ?_
            refine lv_lstore (i := 6) (lv' := [(6, .long (v24)), (0, va_rf ((some q))), (1, .int (v1)), (2, .int ((24 * v1))), (3, .int (v7)), (4, .int (r8.2)), (5, .int (s44_0))]) hx hb zd_X10_drifts_199 hl (by decide) rfl (fun ls hl => ?_)
            refine lv_iload hx hb zd_X10_drifts_201 (lv_at hl 6 rfl) ?_
            refine lv_istore (i := 8) (lv' := [(8, .int (s44_0)), (6, .long (v24)), (0, va_rf ((some q))), (1, .int (v1)), (2, .int ((24 * v1))), (3, .int (v7)), (4, .int (r8.2)), (5, .int (s44_0))]) hx hb zd_X10_drifts_203 hl (by decide) rfl (fun ls hl => ?_)
            replace hf := zo_b hf; obtain ⟨w34, w34e, hf⟩ := hf
            refine L205 v1 (24 * v1) v7 r8.2 s44_0 v24 2000 h180j s44_0 _ _ _ _ w34e hw (lv_sub hl [2, 3, 4, 5, 6, 7, 1, 0] rfl) (fun H locs ls hw hl => ?_)
            refine zl_aload_n hx hb zd_X10_drifts_236 rfl (lv_at hl 0 rfl) ?_
            replace hf := zo_b hf; obtain ⟨v35, ev35, hf⟩ := hf
            obtain ⟨u36, u36e, u36v⟩ := zo_b ev35
            obtain rfl := zv_r_e u36v
            refine zw_get S hK hw zk_10 (k := 3) (by decide) rfl zm_1091 (Or.inl rfl) u36e zd_X10_drifts_237 ?_
            refine lv_iload_n hx hb zd_X10_drifts_240 rfl (lv_at hl 2 rfl) ?_
            refine lv_lload hx hb zd_X10_drifts_241 (lv_at hl 6 rfl) ?_
            replace hf := zo_b hf; obtain ⟨a37, na37, hf⟩ := hf
            refine W.eq (g2 := F0 m 243 ls [.long (v24), .int ((24 * v1)), va_rf ((some a37))]) (by rw [na37] <;> rfl) ?_
            replace hf := zo_b hf; obtain ⟨h38, eh38, hf⟩ := hf
            refine zw_last S hK hw eh38 zd_X10_drifts_243 (fun H locs hw => ?_)
            exact k244h h38 _ _ _ hf hw (lv_sub hl [0, 1, 2, 3, 4, 5] rfl)
      refine lv_icmp_ne (tgt := 180) hx hb zd_X10_drifts_125 (by decide) (fun c11 => ?_) (fun c11 => ?_)
      · replace hf := zo_f c11 hf
        exact k180h h122j _ _ _ hf hw (lv_sub hl [0, 1, 2, 3, 4, 5] rfl)
      · replace hf := zo_t c11 hf
        refine lv_iload_n hx hb zd_X10_drifts_128 rfl (lv_at hl 3 rfl) ?_
        refine lv_if_le (tgt := 180) hx hb zd_X10_drifts_129 (by decide) (fun c39 => ?_) (fun c39 => ?_)
        · replace hf := zo_t c39 hf
          exact k180h h122j _ _ _ hf hw (lv_sub hl [0, 1, 2, 3, 4, 5] rfl)
        · replace hf := zo_f c39 hf
          refine lv_iload hx hb zd_X10_drifts_132 (lv_at hl 5 rfl) ?_
          refine lv_istore (i := 6) (lv' := [(6, .int (s44_0)), (0, va_rf ((some q))), (1, .int (v1)), (2, .int ((24 * v1))), (3, .int (v7)), (4, .int (r8.2)), (5, .int (s44_0))]) hx hb zd_X10_drifts_134 hl (by decide) rfl (fun ls hl => ?_)
          replace hf := zo_b hf; obtain ⟨w49, w49e, hf⟩ := hf
          refine L136 v1 (24 * v1) v7 r8.2 s44_0 2000 h122j s44_0 _ _ _ _ w49e hw (lv_sub hl [1, 2, 3, 4, 5, 6, 0] rfl) (fun H locs ls hw hl => ?_)
          refine zl_aload_n hx hb zd_X10_drifts_170 rfl (lv_at hl 0 rfl) ?_
          replace hf := zo_b hf; obtain ⟨v50, ev50, hf⟩ := hf
          obtain ⟨u51, u51e, u51v⟩ := zo_b ev50
          obtain rfl := zv_r_e u51v
          refine zw_get S hK hw zk_10 (k := 2) (by decide) rfl zm_1090 (Or.inl rfl) u51e zd_X10_drifts_171 ?_
          refine lv_iload_n hx hb zd_X10_drifts_174 rfl (lv_at hl 1 rfl) ?_
          refine lv_dup2_11 hx hb zd_X10_drifts_175 rfl (zv_cat _) ?_
          replace hf := zo_b hf; obtain ⟨a52, na52, hf⟩ := hf
          refine W.eq (g2 := F0 m 176 ls [.int (v1), va_rf ((some a52)), .int (v1), va_rf (v50)]) (by rw [na52] <;> rfl) ?_
          replace hf := zo_b hf; obtain ⟨v53, ev53, hf⟩ := hf
          refine zw_iald S hK hw ev53 zd_X10_drifts_176 ?_
          refine lv_iconst (v := 1) hx hb zd_X10_drifts_177 (by decide) ?_
          refine lv_isub hx hb zd_X10_drifts_178 ?_
          refine W.eq (g2 := F0 m 179 ls [.int ((v53 - 1)), .int (v1), va_rf ((some a52))]) (by rw [na52] <;> rfl) ?_
          replace hf := zo_b hf; obtain ⟨h54, eh54, hf⟩ := hf
          refine zw_iast S hK hw eh54 zd_X10_drifts_179 (fun H locs hw => ?_)
          exact k180h h54 _ _ _ hf hw (lv_sub hl [0, 1, 2, 3, 4, 5] rfl)
    refine lv_if_ne (tgt := 122) hx hb zd_X10_drifts_48 (by decide) (fun c10 => ?_) (fun c10 => ?_)
    · replace hf := zo_f c10 hf
      exact k122h h44j _ _ _ hf hw (lv_sub hl [1, 2, 3, 4, 5, 0] rfl)
    · replace hf := zo_t c10 hf
      refine lv_iload_n hx hb zd_X10_drifts_51 rfl (lv_at hl 4 rfl) ?_
      refine lv_bipush (v := 24) hx hb zd_X10_drifts_52 (by decide) ?_
      refine lv_icmp_ge (tgt := 122) hx hb zd_X10_drifts_54 (by decide) (fun c55 => ?_) (fun c55 => ?_)
      · replace hf := zo_t c55 hf
        exact k122h h44j _ _ _ hf hw (lv_sub hl [1, 2, 3, 4, 5, 0] rfl)
      · replace hf := zo_f c55 hf
        refine lv_iload_n hx hb zd_X10_drifts_57 rfl (lv_at hl 4 rfl) ?_
        refine lv_istore (i := 6) (lv' := [(6, .int (v7)), (5, .int (s44_0)), (0, va_rf ((some q))), (1, .int (v1)), (2, .int ((24 * v1))), (3, .int (v7)), (4, .int (r8.2))]) hx hb zd_X10_drifts_58 hl (by decide) rfl (fun ls hl => ?_)
        replace hf := zo_b hf; obtain ⟨w65, w65e, hf⟩ := hf
        refine L60 v1 (24 * v1) v7 r8.2 s44_0 2000 h44j v7 _ _ _ _ w65e hw (lv_sub hl [2, 3, 4, 5, 6, 1, 0] rfl) (fun H locs ls hw hl => ?_)
        refine zl_aload_n hx hb zd_X10_drifts_93 rfl (lv_at hl 0 rfl) ?_
        replace hf := zo_b hf; obtain ⟨v66, ev66, hf⟩ := hf
        obtain ⟨u67, u67e, u67v⟩ := zo_b ev66
        obtain rfl := zv_r_e u67v
        refine zw_get S hK hw zk_10 (k := 3) (by decide) rfl zm_1091 (Or.inl rfl) u67e zd_X10_drifts_94 ?_
        refine lv_iload_n hx hb zd_X10_drifts_97 rfl (lv_at hl 2 rfl) ?_
        refine lv_iload hx hb zd_X10_drifts_98 (lv_at hl 5 rfl) ?_
        refine lv_iadd hx hb zd_X10_drifts_100 ?_
        refine lv_bipush (v := 97) hx hb zd_X10_drifts_101 (by decide) ?_
        refine zl_aload_n hx hb zd_X10_drifts_103 rfl (lv_at hl 0 rfl) ?_
        refine lv_bipush (v := 26) hx hb zd_X10_drifts_104 (by decide) ?_
        replace hf := zo_b hf; obtain ⟨r68, er68, hf⟩ := hf
        refine zw_callV (n := 1) (ci := 10) (q := zc_cl[10]) (As := [.int (26)]) (rest := [.int (97), .int (((24 * v1) + s44_0)), va_rf (v66)]) S hK hw (zt_X10_draw l g w65 q 26 _ er68) zm_1488 zm_1490 zm_60 zq_X10_draw zm_79 (by decide +kernel) ⟨Nat.le_of_ble_eq_true rfl, Nat.le_of_ble_eq_true rfl⟩ rfl rfl rfl (zi_X10_draw er68) hl.1 rfl (by simp [zv_cat, zv_ci, zv_cj]) zd_X10_drifts_106 ⟨(Nat.le_refl 0), (Nat.le_refl 0)⟩ (fun H locs hw => ?_)
        replace hw : zc_W g r68.1 H locs := hw
        refine lv_iadd hx hb zd_X10_drifts_109 ?_
        refine lv_i2l (v := (((97 + r68.2) : Int32).toInt64)) hx hb zd_X10_drifts_110 rfl ?_
        replace hf := zo_b hf; obtain ⟨a69, na69, hf⟩ := hf
        refine W.eq (g2 := F0 m 111 ls [.long ((((97 + r68.2) : Int32).toInt64)), .int (((24 * v1) + s44_0)), va_rf ((some a69))]) (by rw [na69] <;> rfl) ?_
        replace hf := zo_b hf; obtain ⟨h70, eh70, hf⟩ := hf
        refine zw_last S hK hw eh70 zd_X10_drifts_111 (fun H locs hw => ?_)
        refine zl_aload_n hx hb zd_X10_drifts_112 rfl (lv_at hl 0 rfl) ?_
        replace hf := zo_b hf; obtain ⟨v71, ev71, hf⟩ := hf
        obtain ⟨u72, u72e, u72v⟩ := zo_b ev71
        obtain rfl := zv_r_e u72v
        refine zw_get S hK hw zk_10 (k := 2) (by decide) rfl zm_1090 (Or.inl rfl) u72e zd_X10_drifts_113 ?_
        refine lv_iload_n hx hb zd_X10_drifts_116 rfl (lv_at hl 1 rfl) ?_
        refine lv_dup2_11 hx hb zd_X10_drifts_117 rfl (zv_cat _) ?_
        replace hf := zo_b hf; obtain ⟨a73, na73, hf⟩ := hf
        refine W.eq (g2 := F0 m 118 ls [.int (v1), va_rf ((some a73)), .int (v1), va_rf (v71)]) (by rw [na73] <;> rfl) ?_
        replace hf := zo_b hf; obtain ⟨v74, ev74, hf⟩ := hf
        refine zw_iald S hK hw ev74 zd_X10_drifts_118 ?_
        refine lv_iconst (v := 1) hx hb zd_X10_drifts_119 (by decide) ?_
        refine lv_iadd hx hb zd_X10_drifts_120 ?_
        refine W.eq (g2 := F0 m 121 ls [.int ((v74 + 1)), .int (v1), va_rf ((some a73))]) (by rw [na73] <;> rfl) ?_
        replace hf := zo_b hf; obtain ⟨h75, eh75, hf⟩ := hf
        refine zw_iast S hK hw eh75 zd_X10_drifts_121 (fun H locs hw => ?_)
        exact k122h h75 _ _ _ hf hw (lv_sub hl [0, 1, 2, 3, 4, 5] rfl)
  refine lv_if_ne (tgt := 39) hx hb zd_X10_drifts_32 (by decide) (fun c9 => ?_) (fun c9 => ?_)
  · replace hf := zo_f c9 hf
    refine zl_aload_n hx hb zd_X10_drifts_39 rfl (lv_at hl 4 rfl) ?_
    refine lv_iload_n hx hb zd_X10_drifts_40 rfl (lv_at hl 1 rfl) ?_
    replace hf := zo_b hf; obtain ⟨r76, er76, hf⟩ := hf
    refine zw_callV (n := 1) (ci := 10) (q := zc_cl[10]) (As := [.int (v7)]) (rest := []) S hK hw (zt_X10_draw l g r8.1 q v7 _ er76) zm_1488 zm_1490 zm_60 zq_X10_draw zm_79 (by decide +kernel) ⟨Nat.le_of_ble_eq_true rfl, Nat.le_of_ble_eq_true rfl⟩ rfl rfl rfl (zi_X10_draw er76) hl.1 rfl (by simp [zv_cat, zv_ci, zv_cj]) zd_X10_drifts_41 ⟨(Nat.le_refl 0), (Nat.le_refl 0)⟩ (fun H locs hw => ?_)
    replace hw : zc_W g r76.1 H locs := hw
    exact k44h r76.1 r76.2 _ _ _ hf hw (lv_sub hl [4, 3, 2, 1, 0] rfl)
  · replace hf := zo_t c9 hf
    refine lv_iconst (v := 0) hx hb zd_X10_drifts_35 (by decide) ?_
    refine lv_goto (tgt := 44) hx hb zd_X10_drifts_36 (by decide) ?_
    exact k44h r8.1 0 _ _ _ hf hw (lv_sub hl [4, 3, 2, 1, 0] rfl)
