def zf_X10_behind_L5 (q : Nat) (y2 : Int32) : Nat → zc_H → Int32 → Int32 → Option (zc_H × ((Unit) ⊕ (Int32)))
  | 0, _, _, _ => none
  | n + 1, h, y3, y4 =>
    if y4 = (-1) then
      some (h, (.inl ()))
    else
    (zf_gr h q 10 30).bind fun v2 =>
    v2.bind fun a4 =>
    (zf_si h a4 0 y3 y4).bind fun h5 =>
    if y4 = y2 then
      some (h5, (.inr y3))
    else
    (zf_gr h5 q 10 1).bind fun v7 =>
    v7.bind fun a9 =>
    (zf_ai h5 a9 0 y4).bind fun v10 =>
    zf_X10_behind_L5 q y2 n h5 (y3 + 1) v10
def zf_X10_behind (h : zc_H) (q : Nat) (x1 : Int32) (x2 : Int32) : Option (zc_H × Int32) :=
  if ¬ zf_is h q 10 = true then none else
  (zf_X10_behind_L5 q x2 2000 h 0 x1).bind fun w11 =>
  Sum.elim (fun t12 =>
    some (w11.1, (-1))
    ) (fun t13 =>
    some (w11.1, t13)
    ) w11.2
abbrev zr_X10_behind : Room := { frames := 0, cells := 0, slots := 0, locals := 0 }
theorem zi_X10_behind {h : zc_H} {q : Nat} {x1 : Int32} {x2 : Int32} {res : zc_H × Int32} (hf : zf_X10_behind h q x1 x2 = some res) : zf_is h q 10 = true := Decidable.not_not.mp (zo_n hf).1
set_option maxHeartbeats 4000000 in
set_option maxRecDepth 20000 in
theorem zt_X10_behind (l : Launch) (g : zc_G) (h : zc_H) (q : Nat) (x1 : Int32) (x2 : Int32) (res : zc_H × Int32) (hf : zf_X10_behind h q x1 x2 = some res) : zc_M l g yX10_behind cX10_behind 5 (some .int) zr_X10_behind h [va_rf ((some q)), .int (x1), .int (x2)] res.1 (some (.int (res.2))) := by
  refine zc_M.of (by decide) (by simp [lg_sl, zv_cat, zv_ci, zv_cj]) ?_
  intro p e s m below meth c ls S hK hw hr hlk hnm hl
  replace S : CallFix p m c cX10_behind 5 s [va_rf ((some q)), .int (x1), .int (x2)].toArray (zc_ws yX10_behind cX10_behind 5 (some .int)) RX10 := S
  have hx := S.1
  have hb := S.2.1
  replace hl : lv_has ls 5 [(0, va_rf ((some q))), (1, .int (x1)), (2, .int (x2))] := by simpa [lv_args, zv_cat, zv_ci, zv_cj] using hl
  generalize s.heap = H at hw ⊢
  obtain ⟨locs, hlocs⟩ : ∃ L : List Loc, L = [] := ⟨_, rfl⟩
  rw [← hlocs] at hw ⊢
  have L5 : ∀ (y2 : Int32) (n : Nat) (h : zc_H) (y3 : Int32) (y4 : Int32) (w : zc_H × ((Unit) ⊕ (Int32))) (H : Heap) (locs : List Loc) (ls : Array Slot), zf_X10_behind_L5 q y2 n h y3 y4 = some w → zc_W g h H locs → lv_has ls 5 [(0, va_rf ((some q))), (2, .int (y2)), (3, .int (y3)), (4, .int (y4))] → (∀ (t : Unit) (H : Heap) (locs : List Loc) (ls : Array Slot), w.2 = (.inl t) → zc_W g w.1 H locs → lv_has ls 5 [] → W p l e zr_X10_behind s m [va_rf ((some q)), .int (x1), .int (x2)].toArray below meth c H locs 0 0 (zc_Q g below zr_X10_behind (some (.int (res.2))) res.1 [va_rf ((some q)), .int (x1), .int (x2)] s) (F0 m 42 ls [])) → (∀ (t : Int32) (H : Heap) (locs : List Loc) (ls : Array Slot), w.2 = (.inr t) → zc_W g w.1 H locs → lv_has ls 5 [(3, .int (t))] → W p l e zr_X10_behind s m [va_rf ((some q)), .int (x1), .int (x2)].toArray below meth c H locs 0 0 (zc_Q g below zr_X10_behind (some (.int (res.2))) res.1 [va_rf ((some q)), .int (x1), .int (x2)] s) (F0 m 25 ls [])) → W p l e zr_X10_behind s m [va_rf ((some q)), .int (x1), .int (x2)].toArray below meth c H locs 0 0 (zc_Q g below zr_X10_behind (some (.int (res.2))) res.1 [va_rf ((some q)), .int (x1), .int (x2)] s) (F0 m 5 ls []) := by
    intro y2 n
    induction n with
    | zero =>
      intro h y3 y4 w H locs ls hf
      cases hf
    | succ n ih =>
      intro h y3 y4 w H locs ls hf hw hl  kk1 kk2
      unfold zf_X10_behind_L5 at hf
      refine lv_iload hx hb zd_X10_behind_5 (lv_at hl 3 rfl) ?_
      refine lv_iconst (v := (-1)) hx hb zd_X10_behind_7 (by decide) ?_
      refine lv_icmp_eq (tgt := 42) hx hb zd_X10_behind_8 (by decide) (fun c1 => ?_) (fun c1 => ?_)
      · replace hf := zo_t c1 hf
        have hres := Option.some.inj hf; subst hres
        exact kk1 _ _ _ _ rfl hw (lv_sub hl [] rfl)
      · replace hf := zo_f c1 hf
        refine zl_aload_n hx hb zd_X10_behind_11 rfl (lv_at hl 0 rfl) ?_
        replace hf := zo_b hf; obtain ⟨v2, ev2, hf⟩ := hf
        obtain ⟨u3, u3e, u3v⟩ := zo_b ev2
        obtain rfl := zv_r_e u3v
        refine zw_get S hK hw zk_10 (k := 30) (by decide) rfl zm_1118 (Or.inl rfl) u3e zd_X10_behind_12 ?_
        refine lv_iload_n hx hb zd_X10_behind_15 rfl (lv_at hl 2 rfl) ?_
        refine lv_iload hx hb zd_X10_behind_16 (lv_at hl 3 rfl) ?_
        replace hf := zo_b hf; obtain ⟨a4, na4, hf⟩ := hf
        refine W.eq (g2 := F0 m 18 ls [.int (y4), .int (y3), va_rf ((some a4))]) (by rw [na4] <;> rfl) ?_
        replace hf := zo_b hf; obtain ⟨h5, eh5, hf⟩ := hf
        refine zw_iast S hK hw eh5 zd_X10_behind_18 (fun H locs hw => ?_)
        refine lv_iload hx hb zd_X10_behind_19 (lv_at hl 3 rfl) ?_
        refine lv_iload_n hx hb zd_X10_behind_21 rfl (lv_at hl 1 rfl) ?_
        refine lv_icmp_ne (tgt := 27) hx hb zd_X10_behind_22 (by decide) (fun c6 => ?_) (fun c6 => ?_)
        · replace hf := zo_f c6 hf
          refine lv_iinc (i := 3) (v := (y3 + 1)) (lv' := [(3, .int ((y3 + 1))), (0, va_rf ((some q))), (2, .int (y2)), (4, .int (y4))]) hx hb zd_X10_behind_27 hl (k := 2) rfl (congrArg (_ + ·) (by decide)) (by decide) rfl (fun ls hl => ?_)
          refine zl_aload_n hx hb zd_X10_behind_30 rfl (lv_at hl 1 rfl) ?_
          replace hf := zo_b hf; obtain ⟨v7, ev7, hf⟩ := hf
          obtain ⟨u8, u8e, u8v⟩ := zo_b ev7
          obtain rfl := zv_r_e u8v
          refine zw_get S hK hw zk_10 (k := 1) (by decide) rfl zm_1089 (Or.inl rfl) u8e zd_X10_behind_31 ?_
          refine lv_iload hx hb zd_X10_behind_34 (lv_at hl 3 rfl) ?_
          replace hf := zo_b hf; obtain ⟨a9, na9, hf⟩ := hf
          refine W.eq (g2 := F0 m 36 ls [.int (y4), va_rf ((some a9))]) (by rw [na9] <;> rfl) ?_
          replace hf := zo_b hf; obtain ⟨v10, ev10, hf⟩ := hf
          refine zw_iald S hK hw ev10 zd_X10_behind_36 ?_
          refine lv_istore (i := 4) (lv' := [(4, .int (v10)), (3, .int ((y3 + 1))), (0, va_rf ((some q))), (2, .int (y2))]) hx hb zd_X10_behind_37 hl (by decide) rfl (fun ls hl => ?_)
          refine lv_goto (tgt := 5) hx hb zd_X10_behind_39 (by decide) ?_
          exact ih h5 (y3 + 1) v10 _ _ _ _ hf hw (lv_sub hl [2, 3, 1, 0] rfl) kk1 kk2
        · replace hf := zo_t c6 hf
          have hres := Option.some.inj hf; subst hres
          exact kk2 _ _ _ _ rfl hw (lv_sub hl [2] rfl)
  unfold zf_X10_behind at hf
  obtain ⟨-, hf⟩ := zo_n hf
  refine lv_iconst (v := 0) hx hb zd_X10_behind_0 (by decide) ?_
  refine lv_istore_n (i := 3) (lv' := [(3, .int (0)), (0, va_rf ((some q))), (1, .int (x1)), (2, .int (x2))]) hx hb zd_X10_behind_1 rfl hl (by decide) rfl (fun ls hl => ?_)
  refine lv_iload_n hx hb zd_X10_behind_2 rfl (lv_at hl 2 rfl) ?_
  refine lv_istore (i := 4) (lv' := [(4, .int (x1)), (3, .int (0)), (0, va_rf ((some q))), (1, .int (x1)), (2, .int (x2))]) hx hb zd_X10_behind_3 hl (by decide) rfl (fun ls hl => ?_)
  replace hf := zo_b hf; obtain ⟨w11, w11e, hf⟩ := hf
  refine L5 x2 2000 h 0 x1 _ _ _ _ w11e hw (lv_sub hl [2, 4, 1, 0] rfl) ?_ ?_
  · intro t12 H locs ls exw11 hw hl
    rw [exw11] at hf
    simp only [Sum.elim_inl, Sum.elim_inr] at hf
    refine lv_iconst (v := (-1)) hx hb zd_X10_behind_42 (by decide) ?_
    have hres := Option.some.inj hf; subst hres
    exact zw_iret (v := (-1)) (ty := .int) hx hb hr hlk rfl hw zd_X10_behind_43 (Nat.le_refl 0) (Nat.le_refl 0)
  · intro t13 H locs ls exw11 hw hl
    rw [exw11] at hf
    simp only [Sum.elim_inl, Sum.elim_inr] at hf
    refine lv_iload_n hx hb zd_X10_behind_25 rfl (lv_at hl 0 rfl) ?_
    have hres := Option.some.inj hf; subst hres
    exact zw_iret (v := t13) (ty := .int) hx hb hr hlk rfl hw zd_X10_behind_26 (Nat.le_refl 0) (Nat.le_refl 0)
def zf_X10_through_L68 (h : zc_H) (q : Nat) : Nat → Int32 → Int32 → Option (Int32)
  | 0, _, _ => none
  | n + 1, y5, y6 =>
    if y6 < 0 then
      some y5
    else
    if y5 = (-1) then
      some y5
    else
    (zf_gr h q 10 4).bind fun v12 =>
    (zf_gr h q 10 30).bind fun v14 =>
    v14.bind fun a16 =>
    (zf_ai h a16 0 y6).bind fun v17 =>
    v12.bind fun a18 =>
    (zf_ai h a18 0 ((24 * v17) + y5)).bind fun v19 =>
    zf_X10_through_L68 h q n v19 (y6 + (-1))
def zf_X10_through (h : zc_H) (q : Nat) (x1 : Int32) (x2 : Int32) (x3 : Int32) : Option (zc_H × Int32) :=
  if ¬ zf_is h q 10 = true then none else
  (zf_X10_isRevision h q x1).bind fun r1 =>
  let k16 := fun (_ : Unit) =>
    (zf_X10_no10 h q (-1)).bind fun r3 =>
    some (r3.1, r3.2)
  if r1 = 0 then
    k16 ()
  else
  (zf_X10_isRevision h q x2).bind fun r4 =>
  if r4 = 0 then
    k16 ()
  else
  (zf_X10_isLine h q x1 x3).bind fun r6 =>
  if r6 = 0 then
    (zf_X10_no10 h q (-5)).bind fun r22 =>
    some (r22.1, r22.2)
  else
  (zf_X10_behind h q x2 x1).bind fun r8 =>
  if r8.2 = (-1) then
    (zf_X10_no10 r8.1 q (-6)).bind fun r21 =>
    some (r21.1, r21.2)
  else
  (zf_X10_through_L68 r8.1 q 2000 x3 (r8.2 - 1)).bind fun w20 =>
  some (r8.1, w20)
abbrev zr_X10_through : Room := { frames := 2, cells := 0, slots := 0, locals := 44 }
theorem zi_X10_through {h : zc_H} {q : Nat} {x1 : Int32} {x2 : Int32} {x3 : Int32} {res : zc_H × Int32} (hf : zf_X10_through h q x1 x2 x3 = some res) : zf_is h q 10 = true := Decidable.not_not.mp (zo_n hf).1
set_option maxHeartbeats 4000000 in
set_option maxRecDepth 20000 in
theorem zt_X10_through (l : Launch) (g : zc_G) (h : zc_H) (q : Nat) (x1 : Int32) (x2 : Int32) (x3 : Int32) (res : zc_H × Int32) (hf : zf_X10_through h q x1 x2 x3 = some res) : zc_M l g yX10_through cX10_through 7 (some .int) zr_X10_through h [va_rf ((some q)), .int (x1), .int (x2), .int (x3)] res.1 (some (.int (res.2))) := by
  refine zc_M.of (by decide) (by simp [lg_sl, zv_cat, zv_ci, zv_cj]) ?_
  intro p e s m below meth c ls S hK hw hr hlk hnm hl
  replace S : CallFix p m c cX10_through 7 s [va_rf ((some q)), .int (x1), .int (x2), .int (x3)].toArray (zc_ws yX10_through cX10_through 7 (some .int)) RX10 := S
  have hx := S.1
  have hb := S.2.1
  replace hl : lv_has ls 7 [(0, va_rf ((some q))), (1, .int (x1)), (2, .int (x2)), (3, .int (x3))] := by simpa [lv_args, zv_cat, zv_ci, zv_cj] using hl
  generalize s.heap = H at hw ⊢
  obtain ⟨locs, hlocs⟩ : ∃ L : List Loc, L = [] := ⟨_, rfl⟩
  rw [← hlocs] at hw ⊢
  have L68 : ∀ (h : zc_H) (n : Nat) (y5 : Int32) (y6 : Int32) (w : Int32) (H : Heap) (locs : List Loc) (ls : Array Slot), zf_X10_through_L68 h q n y5 y6 = some w → zc_W g h H locs → lv_has ls 7 [(0, va_rf ((some q))), (5, .int (y5)), (6, .int (y6))] → (∀ (H : Heap) (locs : List Loc) (ls : Array Slot), zc_W g h H locs → lv_has ls 7 [(5, .int (w))] → W p l e zr_X10_through s m [va_rf ((some q)), .int (x1), .int (x2), .int (x3)].toArray below meth c H locs 0 0 (zc_Q g below zr_X10_through (some (.int (res.2))) res.1 [va_rf ((some q)), .int (x1), .int (x2), .int (x3)] s) (F0 m 105 ls [])) → W p l e zr_X10_through s m [va_rf ((some q)), .int (x1), .int (x2), .int (x3)].toArray below meth c H locs 0 0 (zc_Q g below zr_X10_through (some (.int (res.2))) res.1 [va_rf ((some q)), .int (x1), .int (x2), .int (x3)] s) (F0 m 68 ls []) := by
    intro h n
    induction n with
    | zero =>
      intro y5 y6 w H locs ls hf
      cases hf
    | succ n ih =>
      intro y5 y6 w H locs ls hf hw hl  kk
      unfold zf_X10_through_L68 at hf
      refine lv_iload hx hb zd_X10_through_68 (lv_at hl 2 rfl) ?_
      refine lv_if_lt (tgt := 105) hx hb zd_X10_through_70 (by decide) (fun c10 => ?_) (fun c10 => ?_)
      · replace hf := zo_t c10 hf
        have hres := Option.some.inj hf; subst hres
        exact kk _ _ _ hw (lv_sub hl [1] rfl)
      · replace hf := zo_f c10 hf
        refine lv_iload hx hb zd_X10_through_73 (lv_at hl 1 rfl) ?_
        refine lv_iconst (v := (-1)) hx hb zd_X10_through_75 (by decide) ?_
        refine lv_icmp_eq (tgt := 105) hx hb zd_X10_through_76 (by decide) (fun c11 => ?_) (fun c11 => ?_)
        · replace hf := zo_t c11 hf
          have hres := Option.some.inj hf; subst hres
          exact kk _ _ _ hw (lv_sub hl [1] rfl)
        · replace hf := zo_f c11 hf
          refine zl_aload_n hx hb zd_X10_through_79 rfl (lv_at hl 0 rfl) ?_
          replace hf := zo_b hf; obtain ⟨v12, ev12, hf⟩ := hf
          obtain ⟨u13, u13e, u13v⟩ := zo_b ev12
          obtain rfl := zv_r_e u13v
          refine zw_get S hK hw zk_10 (k := 4) (by decide) rfl zm_1092 (Or.inl rfl) u13e zd_X10_through_80 ?_
          refine lv_bipush (v := 24) hx hb zd_X10_through_83 (by decide) ?_
          refine zl_aload_n hx hb zd_X10_through_85 rfl (lv_at hl 0 rfl) ?_
          replace hf := zo_b hf; obtain ⟨v14, ev14, hf⟩ := hf
          obtain ⟨u15, u15e, u15v⟩ := zo_b ev14
          obtain rfl := zv_r_e u15v
          refine zw_get S hK hw zk_10 (k := 30) (by decide) rfl zm_1118 (Or.inl rfl) u15e zd_X10_through_86 ?_
          refine lv_iload hx hb zd_X10_through_89 (lv_at hl 2 rfl) ?_
          replace hf := zo_b hf; obtain ⟨a16, na16, hf⟩ := hf
          refine W.eq (g2 := F0 m 91 ls [.int (y6), va_rf ((some a16)), .int (24), va_rf (v12)]) (by rw [na16] <;> rfl) ?_
          replace hf := zo_b hf; obtain ⟨v17, ev17, hf⟩ := hf
          refine zw_iald S hK hw ev17 zd_X10_through_91 ?_
          refine lv_imul hx hb zd_X10_through_92 ?_
          refine lv_iload hx hb zd_X10_through_93 (lv_at hl 1 rfl) ?_
          refine lv_iadd hx hb zd_X10_through_95 ?_
          replace hf := zo_b hf; obtain ⟨a18, na18, hf⟩ := hf
          refine W.eq (g2 := F0 m 96 ls [.int (((24 * v17) + y5)), va_rf ((some a18))]) (by rw [na18] <;> rfl) ?_
          replace hf := zo_b hf; obtain ⟨v19, ev19, hf⟩ := hf
          refine zw_iald S hK hw ev19 zd_X10_through_96 ?_
          refine lv_istore (i := 5) (lv' := [(5, .int (v19)), (0, va_rf ((some q))), (6, .int (y6))]) hx hb zd_X10_through_97 hl (by decide) rfl (fun ls hl => ?_)
          refine lv_iinc (i := 6) (v := (y6 + (-1))) (lv' := [(6, .int ((y6 + (-1)))), (5, .int (v19)), (0, va_rf ((some q)))]) hx hb zd_X10_through_99 hl (k := 2) rfl (congrArg (_ + ·) (by decide)) (by decide) rfl (fun ls hl => ?_)
          refine lv_goto (tgt := 68) hx hb zd_X10_through_102 (by decide) ?_
          exact ih v19 (y6 + (-1)) _ _ _ _ hf hw (lv_sub hl [2, 1, 0] rfl) kk
  unfold zf_X10_through at hf
  obtain ⟨-, hf⟩ := zo_n hf
  refine zl_aload_n hx hb zd_X10_through_0 rfl (lv_at hl 0 rfl) ?_
  refine lv_iload_n hx hb zd_X10_through_1 rfl (lv_at hl 1 rfl) ?_
  replace hf := zo_b hf; obtain ⟨r1, er1, hf⟩ := hf
  refine zw_callV (n := 1) (ci := 10) (q := zc_cl[10]) (As := [.int (x1)]) (rest := []) S hK hw (zt_X10_isRevision l g h q x1 _ er1) zm_1273 zm_1275 zm_29 zq_X10_isRevision zm_79 (by decide +kernel) ⟨Nat.le_of_ble_eq_true rfl, Nat.le_of_ble_eq_true rfl⟩ rfl rfl rfl (zi_X10_isRevision er1) hl.1 rfl (by simp [zv_cat, zv_ci, zv_cj]) zd_X10_through_2 ⟨(Nat.le_refl 0), (Nat.le_refl 0)⟩ (fun H locs hw => ?_)
  replace hw : zc_W g h H locs := hw
  have k16h : ∀ (_ : Unit) (H : Heap) (locs : List Loc) (ls : Array Slot), (
      (zf_X10_no10 h q (-1)).bind fun r3 =>
      some (r3.1, r3.2)
      ) = some res → zc_W g h H locs → lv_has ls 7 [(0, va_rf ((some q)))] → W p l e zr_X10_through s m [va_rf ((some q)), .int (x1), .int (x2), .int (x3)].toArray below meth c H locs (0 + 0) (0 + 0) (zc_Q g below zr_X10_through (some (.int (res.2))) res.1 [va_rf ((some q)), .int (x1), .int (x2), .int (x3)] s) (F0 m 16 ls []) := by
    intro _ H locs ls hf hw hl
    refine zl_aload_n hx hb zd_X10_through_16 rfl (lv_at hl 0 rfl) ?_
    refine lv_iconst (v := (-1)) hx hb zd_X10_through_17 (by decide) ?_
    replace hf := zo_b hf; obtain ⟨r3, er3, hf⟩ := hf
    refine zw_callV (n := 1) (ci := 10) (q := zc_cl[10]) (As := [.int ((-1))]) (rest := []) S hK hw (zt_X10_no10 l g h q (-1) _ er3) zm_1335 zm_1337 zm_40 zq_X10_no10 zm_79 (by decide +kernel) ⟨Nat.le_of_ble_eq_true rfl, Nat.le_of_ble_eq_true rfl⟩ rfl rfl rfl (zi_X10_no10 er3) hl.1 rfl (by simp [zv_cat, zv_ci, zv_cj]) zd_X10_through_18 ⟨(Nat.le_refl 0), (Nat.le_refl 0)⟩ (fun H locs hw => ?_)
    replace hw : zc_W g r3.1 H locs := hw
    have hres := Option.some.inj hf; subst hres
    exact zw_iret (v := r3.2) (ty := .int) hx hb hr hlk rfl hw zd_X10_through_21 (Nat.le_refl 0) (Nat.le_refl 0)
  refine lv_if_eq (tgt := 16) hx hb zd_X10_through_5 (by decide) (fun c2 => ?_) (fun c2 => ?_)
  · replace hf := zo_t c2 hf
    exact k16h () _ _ _ hf hw (lv_sub hl [0] rfl)
  · replace hf := zo_f c2 hf
    refine zl_aload_n hx hb zd_X10_through_8 rfl (lv_at hl 0 rfl) ?_
    refine lv_iload_n hx hb zd_X10_through_9 rfl (lv_at hl 2 rfl) ?_
    replace hf := zo_b hf; obtain ⟨r4, er4, hf⟩ := hf
    refine zw_callV (n := 1) (ci := 10) (q := zc_cl[10]) (As := [.int (x2)]) (rest := []) S hK hw (zt_X10_isRevision l g h q x2 _ er4) zm_1273 zm_1275 zm_29 zq_X10_isRevision zm_79 (by decide +kernel) ⟨Nat.le_of_ble_eq_true rfl, Nat.le_of_ble_eq_true rfl⟩ rfl rfl rfl (zi_X10_isRevision er4) hl.1 rfl (by simp [zv_cat, zv_ci, zv_cj]) zd_X10_through_10 ⟨(Nat.le_refl 0), (Nat.le_refl 0)⟩ (fun H locs hw => ?_)
    replace hw : zc_W g h H locs := hw
    refine lv_if_ne (tgt := 22) hx hb zd_X10_through_13 (by decide) (fun c5 => ?_) (fun c5 => ?_)
    · replace hf := zo_f c5 hf
      refine zl_aload_n hx hb zd_X10_through_22 rfl (lv_at hl 0 rfl) ?_
      refine lv_iload_n hx hb zd_X10_through_23 rfl (lv_at hl 1 rfl) ?_
      refine lv_iload_n hx hb zd_X10_through_24 rfl (lv_at hl 3 rfl) ?_
      replace hf := zo_b hf; obtain ⟨r6, er6, hf⟩ := hf
      refine zw_callV (n := 2) (ci := 10) (q := zc_cl[10]) (As := [.int (x1), .int (x3)]) (rest := []) S hK hw (zt_X10_isLine l g h q x1 x3 _ er6) zm_1326 zm_1328 zm_39 zq_X10_isLine zm_79 (by decide +kernel) ⟨Nat.le_of_ble_eq_true rfl, Nat.le_of_ble_eq_true rfl⟩ rfl rfl rfl (zi_X10_isLine er6) hl.1 rfl (by simp [zv_cat, zv_ci, zv_cj]) zd_X10_through_25 ⟨(Nat.le_refl 0), (Nat.le_refl 0)⟩ (fun H locs hw => ?_)
      replace hw : zc_W g h H locs := hw
      refine lv_if_ne (tgt := 38) hx hb zd_X10_through_28 (by decide) (fun c7 => ?_) (fun c7 => ?_)
      · replace hf := zo_f c7 hf
        refine zl_aload_n hx hb zd_X10_through_38 rfl (lv_at hl 0 rfl) ?_
        refine lv_iload_n hx hb zd_X10_through_39 rfl (lv_at hl 2 rfl) ?_
        refine lv_iload_n hx hb zd_X10_through_40 rfl (lv_at hl 1 rfl) ?_
        replace hf := zo_b hf; obtain ⟨r8, er8, hf⟩ := hf
        refine zw_callV (n := 2) (ci := 10) (q := zc_cl[10]) (As := [.int (x2), .int (x1)]) (rest := []) S hK hw (zt_X10_behind l g h q x2 x1 _ er8) zm_1355 zm_1357 zm_41 zq_X10_behind zm_79 (by decide +kernel) ⟨Nat.le_of_ble_eq_true rfl, Nat.le_of_ble_eq_true rfl⟩ rfl rfl rfl (zi_X10_behind er8) hl.1 rfl (by simp [zv_cat, zv_ci, zv_cj]) zd_X10_through_41 ⟨(Nat.le_refl 0), (Nat.le_refl 0)⟩ (fun H locs hw => ?_)
        replace hw : zc_W g r8.1 H locs := hw
        refine lv_istore (i := 4) (lv' := [(4, .int (r8.2)), (0, va_rf ((some q))), (1, .int (x1)), (2, .int (x2)), (3, .int (x3))]) hx hb zd_X10_through_44 hl (by decide) rfl (fun ls hl => ?_)
        refine lv_iload hx hb zd_X10_through_46 (lv_at hl 0 rfl) ?_
        refine lv_iconst (v := (-1)) hx hb zd_X10_through_48 (by decide) ?_
        refine lv_icmp_ne (tgt := 59) hx hb zd_X10_through_49 (by decide) (fun c9 => ?_) (fun c9 => ?_)
        · replace hf := zo_f c9 hf
          refine lv_iload_n hx hb zd_X10_through_59 rfl (lv_at hl 4 rfl) ?_
          refine lv_istore (i := 5) (lv' := [(5, .int (x3)), (4, .int (r8.2)), (0, va_rf ((some q))), (1, .int (x1)), (2, .int (x2)), (3, .int (x3))]) hx hb zd_X10_through_60 hl (by decide) rfl (fun ls hl => ?_)
          refine lv_iload hx hb zd_X10_through_62 (lv_at hl 1 rfl) ?_
          refine lv_iconst (v := 1) hx hb zd_X10_through_64 (by decide) ?_
          refine lv_isub hx hb zd_X10_through_65 ?_
          refine lv_istore (i := 6) (lv' := [(6, .int ((r8.2 - 1))), (5, .int (x3)), (4, .int (r8.2)), (0, va_rf ((some q))), (1, .int (x1)), (2, .int (x2)), (3, .int (x3))]) hx hb zd_X10_through_66 hl (by decide) rfl (fun ls hl => ?_)
          replace hf := zo_b hf; obtain ⟨w20, w20e, hf⟩ := hf
          refine L68 r8.1  2000 x3 (r8.2 - 1) _ _ _ _ w20e hw (lv_sub hl [3, 1, 0] rfl) (fun H locs ls hw hl => ?_)
          refine lv_iload hx hb zd_X10_through_105 (lv_at hl 0 rfl) ?_
          have hres := Option.some.inj hf; subst hres
          exact zw_iret (v := w20) (ty := .int) hx hb hr hlk rfl hw zd_X10_through_107 (Nat.le_refl 0) (Nat.le_refl 0)
        · replace hf := zo_t c9 hf
          refine zl_aload_n hx hb zd_X10_through_52 rfl (lv_at hl 1 rfl) ?_
          refine lv_bipush (v := (-6)) hx hb zd_X10_through_53 (by decide) ?_
          replace hf := zo_b hf; obtain ⟨r21, er21, hf⟩ := hf
          refine zw_callV (n := 1) (ci := 10) (q := zc_cl[10]) (As := [.int ((-6))]) (rest := []) S hK hw (zt_X10_no10 l g r8.1 q (-6) _ er21) zm_1335 zm_1337 zm_40 zq_X10_no10 zm_79 (by decide +kernel) ⟨Nat.le_of_ble_eq_true rfl, Nat.le_of_ble_eq_true rfl⟩ rfl rfl rfl (zi_X10_no10 er21) hl.1 rfl (by simp [zv_cat, zv_ci, zv_cj]) zd_X10_through_55 ⟨(Nat.le_refl 0), (Nat.le_refl 0)⟩ (fun H locs hw => ?_)
          replace hw : zc_W g r21.1 H locs := hw
          have hres := Option.some.inj hf; subst hres
          exact zw_iret (v := r21.2) (ty := .int) hx hb hr hlk rfl hw zd_X10_through_58 (Nat.le_refl 0) (Nat.le_refl 0)
      · replace hf := zo_t c7 hf
        refine zl_aload_n hx hb zd_X10_through_31 rfl (lv_at hl 0 rfl) ?_
        refine lv_bipush (v := (-5)) hx hb zd_X10_through_32 (by decide) ?_
        replace hf := zo_b hf; obtain ⟨r22, er22, hf⟩ := hf
        refine zw_callV (n := 1) (ci := 10) (q := zc_cl[10]) (As := [.int ((-5))]) (rest := []) S hK hw (zt_X10_no10 l g h q (-5) _ er22) zm_1335 zm_1337 zm_40 zq_X10_no10 zm_79 (by decide +kernel) ⟨Nat.le_of_ble_eq_true rfl, Nat.le_of_ble_eq_true rfl⟩ rfl rfl rfl (zi_X10_no10 er22) hl.1 rfl (by simp [zv_cat, zv_ci, zv_cj]) zd_X10_through_34 ⟨(Nat.le_refl 0), (Nat.le_refl 0)⟩ (fun H locs hw => ?_)
        replace hw : zc_W g r22.1 H locs := hw
        have hres := Option.some.inj hf; subst hres
        exact zw_iret (v := r22.2) (ty := .int) hx hb hr hlk rfl hw zd_X10_through_37 (Nat.le_refl 0) (Nat.le_refl 0)
    · replace hf := zo_t c5 hf
      exact k16h () _ _ _ hf hw (lv_sub hl [0] rfl)
def zf_X10_comesFrom_L14 (h : zc_H) (q : Nat) (y1 : Int32) (y2 : Int32) : Nat → Int32 → Option ((Unit) ⊕ (Int32))
  | 0, _ => none
  | n + 1, y3 =>
    (zf_gr h q 10 2).bind fun v6 =>
    (zf_gr h q 10 1).bind fun v8 =>
    v8.bind fun a10 =>
    (zf_ai h a10 0 y1).bind fun v11 =>
    v6.bind fun a12 =>
    (zf_ai h a12 0 v11).bind fun v13 =>
    if v13 ≤ y3 then
      some (.inl ())
    else
    (zf_gr h q 10 4).bind fun v15 =>
    v15.bind fun a17 =>
    (zf_ai h a17 0 ((24 * y1) + y3)).bind fun v18 =>
    if v18 = y2 then
      some (.inr y3)
    else
    zf_X10_comesFrom_L14 h q y1 y2 n (y3 + 1)
def zf_X10_comesFrom (h : zc_H) (q : Nat) (x1 : Int32) (x2 : Int32) : Option (Int32) :=
  if ¬ zf_is h q 10 = true then none else
  (zf_gr h q 10 1).bind fun v1 =>
  v1.bind fun a3 =>
  (zf_ai h a3 0 x1).bind fun v4 =>
  if v4 = (-1) then
    some (-1)
  else
  (zf_X10_comesFrom_L14 h q x1 x2 2000 0).bind fun w20 =>
  Sum.elim (fun t21 =>
    some (-1)
    ) (fun t22 =>
    some t22
    ) w20
abbrev zr_X10_comesFrom : Room := { frames := 0, cells := 0, slots := 0, locals := 0 }
theorem zi_X10_comesFrom {h : zc_H} {q : Nat} {x1 : Int32} {x2 : Int32} {res : Int32} (hf : zf_X10_comesFrom h q x1 x2 = some res) : zf_is h q 10 = true := Decidable.not_not.mp (zo_n hf).1
set_option maxHeartbeats 4000000 in
set_option maxRecDepth 20000 in
theorem zt_X10_comesFrom (l : Launch) (g : zc_G) (h : zc_H) (q : Nat) (x1 : Int32) (x2 : Int32) (res : Int32) (hf : zf_X10_comesFrom h q x1 x2 = some res) : zc_M l g yX10_comesFrom cX10_comesFrom 4 (some .int) zr_X10_comesFrom h [va_rf ((some q)), .int (x1), .int (x2)] h (some (.int (res))) := by
  refine zc_M.of (by decide) (by simp [lg_sl, zv_cat, zv_ci, zv_cj]) ?_
  intro p e s m below meth c ls S hK hw hr hlk hnm hl
  replace S : CallFix p m c cX10_comesFrom 4 s [va_rf ((some q)), .int (x1), .int (x2)].toArray (zc_ws yX10_comesFrom cX10_comesFrom 4 (some .int)) RX10 := S
  have hx := S.1
  have hb := S.2.1
  replace hl : lv_has ls 4 [(0, va_rf ((some q))), (1, .int (x1)), (2, .int (x2))] := by simpa [lv_args, zv_cat, zv_ci, zv_cj] using hl
  generalize s.heap = H at hw ⊢
  obtain ⟨locs, hlocs⟩ : ∃ L : List Loc, L = [] := ⟨_, rfl⟩
  rw [← hlocs] at hw ⊢
  have L14 : ∀ (h : zc_H) (y1 : Int32) (y2 : Int32) (n : Nat) (y3 : Int32) (w : (Unit) ⊕ (Int32)) (H : Heap) (locs : List Loc) (ls : Array Slot), zf_X10_comesFrom_L14 h q y1 y2 n y3 = some w → zc_W g h H locs → lv_has ls 4 [(0, va_rf ((some q))), (1, .int (y1)), (2, .int (y2)), (3, .int (y3))] → (∀ (t : Unit) (H : Heap) (locs : List Loc) (ls : Array Slot), w = (.inl t) → zc_W g h H locs → lv_has ls 4 [] → W p l e zr_X10_comesFrom s m [va_rf ((some q)), .int (x1), .int (x2)].toArray below meth c H locs 0 0 (zc_Q g below zr_X10_comesFrom (some (.int (res))) h [va_rf ((some q)), .int (x1), .int (x2)] s) (F0 m 52 ls [])) → (∀ (t : Int32) (H : Heap) (locs : List Loc) (ls : Array Slot), w = (.inr t) → zc_W g h H locs → lv_has ls 4 [(3, .int (t))] → W p l e zr_X10_comesFrom s m [va_rf ((some q)), .int (x1), .int (x2)].toArray below meth c H locs 0 0 (zc_Q g below zr_X10_comesFrom (some (.int (res))) h [va_rf ((some q)), .int (x1), .int (x2)] s) (F0 m 44 ls [])) → W p l e zr_X10_comesFrom s m [va_rf ((some q)), .int (x1), .int (x2)].toArray below meth c H locs 0 0 (zc_Q g below zr_X10_comesFrom (some (.int (res))) h [va_rf ((some q)), .int (x1), .int (x2)] s) (F0 m 14 ls []) := by
    intro h y1 y2 n
    induction n with
    | zero =>
      intro y3 w H locs ls hf
      cases hf
    | succ n ih =>
      intro y3 w H locs ls hf hw hl  kk1 kk2
      unfold zf_X10_comesFrom_L14 at hf
      refine lv_iload_n hx hb zd_X10_comesFrom_14 rfl (lv_at hl 3 rfl) ?_
      refine zl_aload_n hx hb zd_X10_comesFrom_15 rfl (lv_at hl 0 rfl) ?_
      replace hf := zo_b hf; obtain ⟨v6, ev6, hf⟩ := hf
      obtain ⟨u7, u7e, u7v⟩ := zo_b ev6
      obtain rfl := zv_r_e u7v
      refine zw_get S hK hw zk_10 (k := 2) (by decide) rfl zm_1090 (Or.inl rfl) u7e zd_X10_comesFrom_16 ?_
      refine zl_aload_n hx hb zd_X10_comesFrom_19 rfl (lv_at hl 0 rfl) ?_
      replace hf := zo_b hf; obtain ⟨v8, ev8, hf⟩ := hf
      obtain ⟨u9, u9e, u9v⟩ := zo_b ev8
      obtain rfl := zv_r_e u9v
      refine zw_get S hK hw zk_10 (k := 1) (by decide) rfl zm_1089 (Or.inl rfl) u9e zd_X10_comesFrom_20 ?_
      refine lv_iload_n hx hb zd_X10_comesFrom_23 rfl (lv_at hl 1 rfl) ?_
      replace hf := zo_b hf; obtain ⟨a10, na10, hf⟩ := hf
      refine W.eq (g2 := F0 m 24 ls [.int (y1), va_rf ((some a10)), va_rf (v6), .int (y3)]) (by rw [na10] <;> rfl) ?_
      replace hf := zo_b hf; obtain ⟨v11, ev11, hf⟩ := hf
      refine zw_iald S hK hw ev11 zd_X10_comesFrom_24 ?_
      replace hf := zo_b hf; obtain ⟨a12, na12, hf⟩ := hf
      refine W.eq (g2 := F0 m 25 ls [.int (v11), va_rf ((some a12)), .int (y3)]) (by rw [na12] <;> rfl) ?_
      replace hf := zo_b hf; obtain ⟨v13, ev13, hf⟩ := hf
      refine zw_iald S hK hw ev13 zd_X10_comesFrom_25 ?_
      refine lv_icmp_ge (tgt := 52) hx hb zd_X10_comesFrom_26 (by decide) (fun c14 => ?_) (fun c14 => ?_)
      · replace hf := zo_t c14 hf
        have hres := Option.some.inj hf; subst hres
        exact kk1 _ _ _ _ rfl hw (lv_sub hl [] rfl)
      · replace hf := zo_f c14 hf
        refine zl_aload_n hx hb zd_X10_comesFrom_29 rfl (lv_at hl 0 rfl) ?_
        replace hf := zo_b hf; obtain ⟨v15, ev15, hf⟩ := hf
        obtain ⟨u16, u16e, u16v⟩ := zo_b ev15
        obtain rfl := zv_r_e u16v
        refine zw_get S hK hw zk_10 (k := 4) (by decide) rfl zm_1092 (Or.inl rfl) u16e zd_X10_comesFrom_30 ?_
        refine lv_bipush (v := 24) hx hb zd_X10_comesFrom_33 (by decide) ?_
        refine lv_iload_n hx hb zd_X10_comesFrom_35 rfl (lv_at hl 1 rfl) ?_
        refine lv_imul hx hb zd_X10_comesFrom_36 ?_
        refine lv_iload_n hx hb zd_X10_comesFrom_37 rfl (lv_at hl 3 rfl) ?_
        refine lv_iadd hx hb zd_X10_comesFrom_38 ?_
        replace hf := zo_b hf; obtain ⟨a17, na17, hf⟩ := hf
        refine W.eq (g2 := F0 m 39 ls [.int (((24 * y1) + y3)), va_rf ((some a17))]) (by rw [na17] <;> rfl) ?_
        replace hf := zo_b hf; obtain ⟨v18, ev18, hf⟩ := hf
        refine zw_iald S hK hw ev18 zd_X10_comesFrom_39 ?_
        refine lv_iload_n hx hb zd_X10_comesFrom_40 rfl (lv_at hl 2 rfl) ?_
        refine lv_icmp_ne (tgt := 46) hx hb zd_X10_comesFrom_41 (by decide) (fun c19 => ?_) (fun c19 => ?_)
        · replace hf := zo_f c19 hf
          refine lv_iinc (i := 3) (v := (y3 + 1)) (lv' := [(3, .int ((y3 + 1))), (0, va_rf ((some q))), (1, .int (y1)), (2, .int (y2))]) hx hb zd_X10_comesFrom_46 hl (k := 3) rfl (congrArg (_ + ·) (by decide)) (by decide) rfl (fun ls hl => ?_)
          refine lv_goto (tgt := 14) hx hb zd_X10_comesFrom_49 (by decide) ?_
          exact ih (y3 + 1) _ _ _ _ hf hw (lv_sub hl [1, 2, 3, 0] rfl) kk1 kk2
        · replace hf := zo_t c19 hf
          have hres := Option.some.inj hf; subst hres
          exact kk2 _ _ _ _ rfl hw (lv_sub hl [3] rfl)
  unfold zf_X10_comesFrom at hf
  obtain ⟨-, hf⟩ := zo_n hf
  refine zl_aload_n hx hb zd_X10_comesFrom_0 rfl (lv_at hl 0 rfl) ?_
  replace hf := zo_b hf; obtain ⟨v1, ev1, hf⟩ := hf
  obtain ⟨u2, u2e, u2v⟩ := zo_b ev1
  obtain rfl := zv_r_e u2v
  refine zw_get S hK hw zk_10 (k := 1) (by decide) rfl zm_1089 (Or.inl rfl) u2e zd_X10_comesFrom_1 ?_
  refine lv_iload_n hx hb zd_X10_comesFrom_4 rfl (lv_at hl 1 rfl) ?_
  replace hf := zo_b hf; obtain ⟨a3, na3, hf⟩ := hf
  refine W.eq (g2 := F0 m 5 ls [.int (x1), va_rf ((some a3))]) (by rw [na3] <;> rfl) ?_
  replace hf := zo_b hf; obtain ⟨v4, ev4, hf⟩ := hf
  refine zw_iald S hK hw ev4 zd_X10_comesFrom_5 ?_
  refine lv_iconst (v := (-1)) hx hb zd_X10_comesFrom_6 (by decide) ?_
  refine lv_icmp_ne (tgt := 12) hx hb zd_X10_comesFrom_7 (by decide) (fun c5 => ?_) (fun c5 => ?_)
  · replace hf := zo_f c5 hf
    refine lv_iconst (v := 0) hx hb zd_X10_comesFrom_12 (by decide) ?_
    refine lv_istore_n (i := 3) (lv' := [(3, .int (0)), (0, va_rf ((some q))), (1, .int (x1)), (2, .int (x2))]) hx hb zd_X10_comesFrom_13 rfl hl (by decide) rfl (fun ls hl => ?_)
    replace hf := zo_b hf; obtain ⟨w20, w20e, hf⟩ := hf
    refine L14 h x1 x2 2000 0 _ _ _ _ w20e hw (lv_sub hl [1, 2, 3, 0] rfl) ?_ ?_
    · intro t21 H locs ls exw20 hw hl
      rw [exw20] at hf
      simp only [Sum.elim_inl, Sum.elim_inr] at hf
      refine lv_iconst (v := (-1)) hx hb zd_X10_comesFrom_52 (by decide) ?_
      have hres := Option.some.inj hf; subst hres
      exact zw_iret (v := (-1)) (ty := .int) hx hb hr hlk rfl hw zd_X10_comesFrom_53 (Nat.le_refl 0) (Nat.le_refl 0)
    · intro t22 H locs ls exw20 hw hl
      rw [exw20] at hf
      simp only [Sum.elim_inl, Sum.elim_inr] at hf
      refine lv_iload_n hx hb zd_X10_comesFrom_44 rfl (lv_at hl 0 rfl) ?_
      have hres := Option.some.inj hf; subst hres
      exact zw_iret (v := t22) (ty := .int) hx hb hr hlk rfl hw zd_X10_comesFrom_45 (Nat.le_refl 0) (Nat.le_refl 0)
  · replace hf := zo_t c5 hf
    refine lv_iconst (v := (-1)) hx hb zd_X10_comesFrom_10 (by decide) ?_
    have hres := Option.some.inj hf; subst hres
    exact zw_iret (v := (-1)) (ty := .int) hx hb hr hlk rfl hw zd_X10_comesFrom_11 (Nat.le_refl 0) (Nat.le_refl 0)
def zf_X10_origin_L55 (h : zc_H) (q : Nat) (y3 : Int32) : Nat → Int32 → Int32 → Int32 → Option (Int32 × Int32)
  | 0, _, _, _ => none
  | n + 1, y4, y5, y6 =>
    if y6 = (-1) then
      some (y4, y5)
    else
    (zf_gr h q 10 1).bind fun v10 =>
    v10.bind fun a12 =>
    (zf_ai h a12 0 y4).bind fun v13 =>
    (zf_X10_comesFrom h q v13 y6).bind fun r14 =>
    zf_X10_origin_L55 h q y3 n v13 y6 r14
def zf_X10_origin (h : zc_H) (q : Nat) (x1 : Int32) (x2 : Int32) (x3 : Int32) : Option (zc_H × Int32) :=
  if ¬ zf_is h q 10 = true then none else
  (zf_X10_isRevision h q x1).bind fun r1 =>
  if r1 = 0 then
    (zf_X10_no h q (-1)).bind fun r17 =>
    some (r17.1, r17.2)
  else
  (zf_X10_isLine h q x1 x2).bind fun r3 =>
  let k32 := fun (_ : Unit) =>
    (zf_X10_no h q (-5)).bind fun r5 =>
    some (r5.1, r5.2)
  if r3 = 0 then
    k32 ()
  else
  (zf_X10_within h x3 0 1).bind fun r6 =>
  if r6 = 0 then
    k32 ()
  else
  (zf_X10_comesFrom h q x1 x2).bind fun r8 =>
  (zf_X10_origin_L55 h q x3 2000 x1 x2 r8).bind fun w15 =>
  if x3 = 0 then
    some (h, w15.1)
  else
  some (h, w15.2)
abbrev zr_X10_origin : Room := { frames := 2, cells := 0, slots := 0, locals := 44 }
theorem zi_X10_origin {h : zc_H} {q : Nat} {x1 : Int32} {x2 : Int32} {x3 : Int32} {res : zc_H × Int32} (hf : zf_X10_origin h q x1 x2 x3 = some res) : zf_is h q 10 = true := Decidable.not_not.mp (zo_n hf).1
set_option maxHeartbeats 4000000 in
set_option maxRecDepth 20000 in
theorem zt_X10_origin (l : Launch) (g : zc_G) (h : zc_H) (q : Nat) (x1 : Int32) (x2 : Int32) (x3 : Int32) (res : zc_H × Int32) (hf : zf_X10_origin h q x1 x2 x3 = some res) : zc_M l g yX10_origin cX10_origin 7 (some .int) zr_X10_origin h [va_rf ((some q)), .int (x1), .int (x2), .int (x3)] res.1 (some (.int (res.2))) := by
  refine zc_M.of (by decide) (by simp [lg_sl, zv_cat, zv_ci, zv_cj]) ?_
  intro p e s m below meth c ls S hK hw hr hlk hnm hl
  replace S : CallFix p m c cX10_origin 7 s [va_rf ((some q)), .int (x1), .int (x2), .int (x3)].toArray (zc_ws yX10_origin cX10_origin 7 (some .int)) RX10 := S
  have hx := S.1
  have hb := S.2.1
  replace hl : lv_has ls 7 [(0, va_rf ((some q))), (1, .int (x1)), (2, .int (x2)), (3, .int (x3))] := by simpa [lv_args, zv_cat, zv_ci, zv_cj] using hl
  generalize s.heap = H at hw ⊢
  obtain ⟨locs, hlocs⟩ : ∃ L : List Loc, L = [] := ⟨_, rfl⟩
  rw [← hlocs] at hw ⊢
  have L55 : ∀ (h : zc_H) (y3 : Int32) (n : Nat) (y4 : Int32) (y5 : Int32) (y6 : Int32) (w : Int32 × Int32) (H : Heap) (locs : List Loc) (ls : Array Slot), zf_X10_origin_L55 h q y3 n y4 y5 y6 = some w → zc_W g h H locs → lv_has ls 7 [(0, va_rf ((some q))), (3, .int (y3)), (4, .int (y4)), (5, .int (y5)), (6, .int (y6))] → (∀ (H : Heap) (locs : List Loc) (ls : Array Slot), zc_W g h H locs → lv_has ls 7 [(3, .int (y3)), (4, .int (w.1)), (5, .int (w.2))] → W p l e zr_X10_origin s m [va_rf ((some q)), .int (x1), .int (x2), .int (x3)].toArray below meth c H locs 0 0 (zc_Q g below zr_X10_origin (some (.int (res.2))) res.1 [va_rf ((some q)), .int (x1), .int (x2), .int (x3)] s) (F0 m 87 ls [])) → W p l e zr_X10_origin s m [va_rf ((some q)), .int (x1), .int (x2), .int (x3)].toArray below meth c H locs 0 0 (zc_Q g below zr_X10_origin (some (.int (res.2))) res.1 [va_rf ((some q)), .int (x1), .int (x2), .int (x3)] s) (F0 m 55 ls []) := by
    intro h y3 n
    induction n with
    | zero =>
      intro y4 y5 y6 w H locs ls hf
      cases hf
    | succ n ih =>
      intro y4 y5 y6 w H locs ls hf hw hl  kk
      unfold zf_X10_origin_L55 at hf
      refine lv_iload hx hb zd_X10_origin_55 (lv_at hl 4 rfl) ?_
      refine lv_iconst (v := (-1)) hx hb zd_X10_origin_57 (by decide) ?_
      refine lv_icmp_eq (tgt := 87) hx hb zd_X10_origin_58 (by decide) (fun c9 => ?_) (fun c9 => ?_)
      · replace hf := zo_t c9 hf
        have hres := Option.some.inj hf; subst hres
        exact kk _ _ _ hw (lv_sub hl [1, 2, 3] rfl)
      · replace hf := zo_f c9 hf
        refine lv_iload hx hb zd_X10_origin_61 (lv_at hl 4 rfl) ?_
        refine lv_istore (i := 5) (lv' := [(5, .int (y6)), (0, va_rf ((some q))), (3, .int (y3)), (4, .int (y4)), (6, .int (y6))]) hx hb zd_X10_origin_63 hl (by decide) rfl (fun ls hl => ?_)
        refine zl_aload_n hx hb zd_X10_origin_65 rfl (lv_at hl 1 rfl) ?_
        replace hf := zo_b hf; obtain ⟨v10, ev10, hf⟩ := hf
        obtain ⟨u11, u11e, u11v⟩ := zo_b ev10
        obtain rfl := zv_r_e u11v
        refine zw_get S hK hw zk_10 (k := 1) (by decide) rfl zm_1089 (Or.inl rfl) u11e zd_X10_origin_66 ?_
        refine lv_iload hx hb zd_X10_origin_69 (lv_at hl 3 rfl) ?_
        replace hf := zo_b hf; obtain ⟨a12, na12, hf⟩ := hf
        refine W.eq (g2 := F0 m 71 ls [.int (y4), va_rf ((some a12))]) (by rw [na12] <;> rfl) ?_
        replace hf := zo_b hf; obtain ⟨v13, ev13, hf⟩ := hf
        refine zw_iald S hK hw ev13 zd_X10_origin_71 ?_
        refine lv_istore (i := 4) (lv' := [(4, .int (v13)), (5, .int (y6)), (0, va_rf ((some q))), (3, .int (y3)), (6, .int (y6))]) hx hb zd_X10_origin_72 hl (by decide) rfl (fun ls hl => ?_)
        refine zl_aload_n hx hb zd_X10_origin_74 rfl (lv_at hl 2 rfl) ?_
        refine lv_iload hx hb zd_X10_origin_75 (lv_at hl 0 rfl) ?_
        refine lv_iload hx hb zd_X10_origin_77 (lv_at hl 1 rfl) ?_
        replace hf := zo_b hf; obtain ⟨r14, er14, hf⟩ := hf
        refine zw_callV (n := 2) (ci := 10) (q := zc_cl[10]) (As := [.int (v13), .int (y6)]) (rest := []) S hK hw (zt_X10_comesFrom l g h q v13 y6 _ er14) zm_1363 zm_1365 zm_42 zq_X10_comesFrom zm_79 (by decide +kernel) ⟨Nat.le_of_ble_eq_true rfl, Nat.le_of_ble_eq_true rfl⟩ rfl rfl rfl (zi_X10_comesFrom er14) hl.1 rfl (by simp [zv_cat, zv_ci, zv_cj]) zd_X10_origin_79 ⟨(Nat.le_refl 0), (Nat.le_refl 0)⟩ (fun H locs hw => ?_)
        replace hw : zc_W g h H locs := hw
        refine lv_istore (i := 6) (lv' := [(6, .int (r14)), (4, .int (v13)), (5, .int (y6)), (0, va_rf ((some q))), (3, .int (y3))]) hx hb zd_X10_origin_82 hl (by decide) rfl (fun ls hl => ?_)
        refine lv_goto (tgt := 55) hx hb zd_X10_origin_84 (by decide) ?_
        exact ih v13 y6 r14 _ _ _ _ hf hw (lv_sub hl [3, 4, 1, 2, 0] rfl) kk
  unfold zf_X10_origin at hf
  obtain ⟨-, hf⟩ := zo_n hf
  refine zl_aload_n hx hb zd_X10_origin_0 rfl (lv_at hl 0 rfl) ?_
  refine lv_iload_n hx hb zd_X10_origin_1 rfl (lv_at hl 1 rfl) ?_
  replace hf := zo_b hf; obtain ⟨r1, er1, hf⟩ := hf
  refine zw_callV (n := 1) (ci := 10) (q := zc_cl[10]) (As := [.int (x1)]) (rest := []) S hK hw (zt_X10_isRevision l g h q x1 _ er1) zm_1273 zm_1275 zm_29 zq_X10_isRevision zm_79 (by decide +kernel) ⟨Nat.le_of_ble_eq_true rfl, Nat.le_of_ble_eq_true rfl⟩ rfl rfl rfl (zi_X10_isRevision er1) hl.1 rfl (by simp [zv_cat, zv_ci, zv_cj]) zd_X10_origin_2 ⟨(Nat.le_refl 0), (Nat.le_refl 0)⟩ (fun H locs hw => ?_)
  replace hw : zc_W g h H locs := hw
  refine lv_if_ne (tgt := 14) hx hb zd_X10_origin_5 (by decide) (fun c2 => ?_) (fun c2 => ?_)
  · replace hf := zo_f c2 hf
    refine zl_aload_n hx hb zd_X10_origin_14 rfl (lv_at hl 0 rfl) ?_
    refine lv_iload_n hx hb zd_X10_origin_15 rfl (lv_at hl 1 rfl) ?_
    refine lv_iload_n hx hb zd_X10_origin_16 rfl (lv_at hl 2 rfl) ?_
    replace hf := zo_b hf; obtain ⟨r3, er3, hf⟩ := hf
    refine zw_callV (n := 2) (ci := 10) (q := zc_cl[10]) (As := [.int (x1), .int (x2)]) (rest := []) S hK hw (zt_X10_isLine l g h q x1 x2 _ er3) zm_1326 zm_1328 zm_39 zq_X10_isLine zm_79 (by decide +kernel) ⟨Nat.le_of_ble_eq_true rfl, Nat.le_of_ble_eq_true rfl⟩ rfl rfl rfl (zi_X10_isLine er3) hl.1 rfl (by simp [zv_cat, zv_ci, zv_cj]) zd_X10_origin_17 ⟨(Nat.le_refl 0), (Nat.le_refl 0)⟩ (fun H locs hw => ?_)
    replace hw : zc_W g h H locs := hw
    have k32h : ∀ (_ : Unit) (H : Heap) (locs : List Loc) (ls : Array Slot), (
        (zf_X10_no h q (-5)).bind fun r5 =>
        some (r5.1, r5.2)
        ) = some res → zc_W g h H locs → lv_has ls 7 [(0, va_rf ((some q)))] → W p l e zr_X10_origin s m [va_rf ((some q)), .int (x1), .int (x2), .int (x3)].toArray below meth c H locs ((0 + 0) + 0) ((0 + 0) + 0) (zc_Q g below zr_X10_origin (some (.int (res.2))) res.1 [va_rf ((some q)), .int (x1), .int (x2), .int (x3)] s) (F0 m 32 ls []) := by
      intro _ H locs ls hf hw hl
      refine zl_aload_n hx hb zd_X10_origin_32 rfl (lv_at hl 0 rfl) ?_
      refine lv_bipush (v := (-5)) hx hb zd_X10_origin_33 (by decide) ?_
      replace hf := zo_b hf; obtain ⟨r5, er5, hf⟩ := hf
      refine zw_callV (n := 1) (ci := 10) (q := zc_cl[10]) (As := [.int ((-5))]) (rest := []) S hK hw (zt_X10_no l g h q (-5) _ er5) zm_1219 zm_1221 zm_24 zq_X10_no zm_79 (by decide +kernel) ⟨Nat.le_of_ble_eq_true rfl, Nat.le_of_ble_eq_true rfl⟩ rfl rfl rfl (zi_X10_no er5) hl.1 rfl (by simp [zv_cat, zv_ci, zv_cj]) zd_X10_origin_35 ⟨(Nat.le_refl 0), (Nat.le_refl 0)⟩ (fun H locs hw => ?_)
      replace hw : zc_W g r5.1 H locs := hw
      have hres := Option.some.inj hf; subst hres
      exact zw_iret (v := r5.2) (ty := .int) hx hb hr hlk rfl hw zd_X10_origin_38 (Nat.le_refl 0) (Nat.le_refl 0)
    refine lv_if_eq (tgt := 32) hx hb zd_X10_origin_20 (by decide) (fun c4 => ?_) (fun c4 => ?_)
    · replace hf := zo_t c4 hf
      exact k32h () _ _ _ hf hw (lv_sub hl [0] rfl)
    · replace hf := zo_f c4 hf
      refine lv_iload_n hx hb zd_X10_origin_23 rfl (lv_at hl 3 rfl) ?_
      refine lv_iconst (v := 0) hx hb zd_X10_origin_24 (by decide) ?_
      refine lv_iconst (v := 1) hx hb zd_X10_origin_25 (by decide) ?_
      replace hf := zo_b hf; obtain ⟨r6, er6, hf⟩ := hf
      refine zw_callS (n := 3) (As := [.int (x3), .int (0), .int (1)]) (rest := []) S hK hw (zt_X10_within l g h x3 0 1 _ er6) zm_1216 zm_1217 zq_X10_within zm_79 (by decide +kernel) ⟨Nat.le_of_ble_eq_true rfl, Nat.le_of_ble_eq_true rfl⟩ rfl hl.1 rfl (by simp [zv_cat, zv_ci, zv_cj]) zd_X10_origin_26 ⟨(Nat.le_refl 0), (Nat.le_refl 0)⟩ (fun H locs hw => ?_)
      replace hw : zc_W g h H locs := hw
      refine lv_if_ne (tgt := 39) hx hb zd_X10_origin_29 (by decide) (fun c7 => ?_) (fun c7 => ?_)
      · replace hf := zo_f c7 hf
        refine lv_iload_n hx hb zd_X10_origin_39 rfl (lv_at hl 1 rfl) ?_
        refine lv_istore (i := 4) (lv' := [(4, .int (x1)), (0, va_rf ((some q))), (1, .int (x1)), (2, .int (x2)), (3, .int (x3))]) hx hb zd_X10_origin_40 hl (by decide) rfl (fun ls hl => ?_)
        refine lv_iload_n hx hb zd_X10_origin_42 rfl (lv_at hl 3 rfl) ?_
        refine lv_istore (i := 5) (lv' := [(5, .int (x2)), (4, .int (x1)), (0, va_rf ((some q))), (1, .int (x1)), (2, .int (x2)), (3, .int (x3))]) hx hb zd_X10_origin_43 hl (by decide) rfl (fun ls hl => ?_)
        refine zl_aload_n hx hb zd_X10_origin_45 rfl (lv_at hl 2 rfl) ?_
        refine lv_iload hx hb zd_X10_origin_46 (lv_at hl 1 rfl) ?_
        refine lv_iload hx hb zd_X10_origin_48 (lv_at hl 0 rfl) ?_
        replace hf := zo_b hf; obtain ⟨r8, er8, hf⟩ := hf
        refine zw_callV (n := 2) (ci := 10) (q := zc_cl[10]) (As := [.int (x1), .int (x2)]) (rest := []) S hK hw (zt_X10_comesFrom l g h q x1 x2 _ er8) zm_1363 zm_1365 zm_42 zq_X10_comesFrom zm_79 (by decide +kernel) ⟨Nat.le_of_ble_eq_true rfl, Nat.le_of_ble_eq_true rfl⟩ rfl rfl rfl (zi_X10_comesFrom er8) hl.1 rfl (by simp [zv_cat, zv_ci, zv_cj]) zd_X10_origin_50 ⟨(Nat.le_refl 0), (Nat.le_refl 0)⟩ (fun H locs hw => ?_)
        replace hw : zc_W g h H locs := hw
        refine lv_istore (i := 6) (lv' := [(6, .int (r8)), (5, .int (x2)), (4, .int (x1)), (0, va_rf ((some q))), (1, .int (x1)), (2, .int (x2)), (3, .int (x3))]) hx hb zd_X10_origin_53 hl (by decide) rfl (fun ls hl => ?_)
        replace hf := zo_b hf; obtain ⟨w15, w15e, hf⟩ := hf
        refine L55 h x3 2000 x1 x2 r8 _ _ _ _ w15e hw (lv_sub hl [3, 6, 2, 1, 0] rfl) (fun H locs ls hw hl => ?_)
        refine lv_iload_n hx hb zd_X10_origin_87 rfl (lv_at hl 0 rfl) ?_
        refine lv_if_ne (tgt := 96) hx hb zd_X10_origin_88 (by decide) (fun c16 => ?_) (fun c16 => ?_)
        · replace hf := zo_f c16 hf
          refine lv_iload hx hb zd_X10_origin_96 (lv_at hl 2 rfl) ?_
          have hres := Option.some.inj hf; subst hres
          exact zw_iret (v := w15.2) (ty := .int) hx hb hr hlk rfl hw zd_X10_origin_98 (Nat.le_refl 0) (Nat.le_refl 0)
        · replace hf := zo_t c16 hf
          refine lv_iload hx hb zd_X10_origin_91 (lv_at hl 1 rfl) ?_
          refine lv_goto (tgt := 98) hx hb zd_X10_origin_93 (by decide) ?_
          have hres := Option.some.inj hf; subst hres
          exact zw_iret (v := w15.1) (ty := .int) hx hb hr hlk rfl hw zd_X10_origin_98 (Nat.le_refl 0) (Nat.le_refl 0)
      · replace hf := zo_t c7 hf
        exact k32h () _ _ _ hf hw (lv_sub hl [0] rfl)
  · replace hf := zo_t c2 hf
    refine zl_aload_n hx hb zd_X10_origin_8 rfl (lv_at hl 0 rfl) ?_
    refine lv_iconst (v := (-1)) hx hb zd_X10_origin_9 (by decide) ?_
    replace hf := zo_b hf; obtain ⟨r17, er17, hf⟩ := hf
    refine zw_callV (n := 1) (ci := 10) (q := zc_cl[10]) (As := [.int ((-1))]) (rest := []) S hK hw (zt_X10_no l g h q (-1) _ er17) zm_1219 zm_1221 zm_24 zq_X10_no zm_79 (by decide +kernel) ⟨Nat.le_of_ble_eq_true rfl, Nat.le_of_ble_eq_true rfl⟩ rfl rfl rfl (zi_X10_no er17) hl.1 rfl (by simp [zv_cat, zv_ci, zv_cj]) zd_X10_origin_10 ⟨(Nat.le_refl 0), (Nat.le_refl 0)⟩ (fun H locs hw => ?_)
    replace hw : zc_W g r17.1 H locs := hw
    have hres := Option.some.inj hf; subst hres
    exact zw_iret (v := r17.2) (ty := .int) hx hb hr hlk rfl hw zd_X10_origin_13 (Nat.le_refl 0) (Nat.le_refl 0)
def zf_X10_newRemark (h : zc_H) (q : Nat) (x1 : Int32) (x2 : Int32) (x3 : Int32) (x4 : Int32) (x5 : Int32) (x6 : Int32) : Option (zc_H × Int32) :=
  if ¬ zf_is h q 10 = true then none else
  (zf_gr h q 10 6).bind fun v1 =>
  (zf_gi h q 10 5).bind fun v3 =>
  v1.bind fun a5 =>
  (zf_si h a5 0 v3 x1).bind fun h6 =>
  (zf_gr h6 q 10 6).bind fun v7 =>
  (zf_gi h6 q 10 5).bind fun v9 =>
  v7.bind fun a11 =>
  (zf_si h6 a11 0 (16 + v9) x2).bind fun h12 =>
  (zf_gr h12 q 10 6).bind fun v13 =>
  (zf_gi h12 q 10 5).bind fun v15 =>
  v13.bind fun a17 =>
  (zf_si h12 a17 0 (32 + v15) x3).bind fun h18 =>
  (zf_gr h18 q 10 6).bind fun v19 =>
  (zf_gi h18 q 10 5).bind fun v21 =>
  v19.bind fun a23 =>
  (zf_si h18 a23 0 (48 + v21) x4).bind fun h24 =>
  (zf_gr h24 q 10 6).bind fun v25 =>
  (zf_gi h24 q 10 5).bind fun v27 =>
  v25.bind fun a29 =>
  (zf_si h24 a29 0 (64 + v27) x5).bind fun h30 =>
  (zf_gr h30 q 10 6).bind fun v31 =>
  (zf_gi h30 q 10 5).bind fun v33 =>
  v31.bind fun a35 =>
  (zf_si h30 a35 0 (80 + v33) x6).bind fun h36 =>
  (zf_gr h36 q 10 6).bind fun v37 =>
  (zf_gi h36 q 10 5).bind fun v39 =>
  v37.bind fun a41 =>
  (zf_si h36 a41 0 (96 + v39) 0).bind fun h42 =>
  (zf_gi h42 q 10 5).bind fun v43 =>
  (zf_p h42 q 10 5 (.int ((v43 + 1)))).bind fun h45 =>
  some (h45, v43)
abbrev zr_X10_newRemark : Room := { frames := 0, cells := 0, slots := 0, locals := 0 }
theorem zi_X10_newRemark {h : zc_H} {q : Nat} {x1 : Int32} {x2 : Int32} {x3 : Int32} {x4 : Int32} {x5 : Int32} {x6 : Int32} {res : zc_H × Int32} (hf : zf_X10_newRemark h q x1 x2 x3 x4 x5 x6 = some res) : zf_is h q 10 = true := Decidable.not_not.mp (zo_n hf).1
set_option maxHeartbeats 4000000 in
set_option maxRecDepth 20000 in
theorem zt_X10_newRemark (l : Launch) (g : zc_G) (h : zc_H) (q : Nat) (x1 : Int32) (x2 : Int32) (x3 : Int32) (x4 : Int32) (x5 : Int32) (x6 : Int32) (res : zc_H × Int32) (hf : zf_X10_newRemark h q x1 x2 x3 x4 x5 x6 = some res) : zc_M l g yX10_newRemark cX10_newRemark 7 (some .int) zr_X10_newRemark h [va_rf ((some q)), .int (x1), .int (x2), .int (x3), .int (x4), .int (x5), .int (x6)] res.1 (some (.int (res.2))) := by
  refine zc_M.of (by decide) (by simp [lg_sl, zv_cat, zv_ci, zv_cj]) ?_
  intro p e s m below meth c ls S hK hw hr hlk hnm hl
  replace S : CallFix p m c cX10_newRemark 7 s [va_rf ((some q)), .int (x1), .int (x2), .int (x3), .int (x4), .int (x5), .int (x6)].toArray (zc_ws yX10_newRemark cX10_newRemark 7 (some .int)) RX10 := S
  have hx := S.1
  have hb := S.2.1
  replace hl : lv_has ls 7 [(0, va_rf ((some q))), (1, .int (x1)), (2, .int (x2)), (3, .int (x3)), (4, .int (x4)), (5, .int (x5)), (6, .int (x6))] := by simpa [lv_args, zv_cat, zv_ci, zv_cj] using hl
  generalize s.heap = H at hw ⊢
  obtain ⟨locs, hlocs⟩ : ∃ L : List Loc, L = [] := ⟨_, rfl⟩
  rw [← hlocs] at hw ⊢
  unfold zf_X10_newRemark at hf
  obtain ⟨-, hf⟩ := zo_n hf
  refine zl_aload_n hx hb zd_X10_newRemark_0 rfl (lv_at hl 0 rfl) ?_
  replace hf := zo_b hf; obtain ⟨v1, ev1, hf⟩ := hf
  obtain ⟨u2, u2e, u2v⟩ := zo_b ev1
  obtain rfl := zv_r_e u2v
  refine zw_get S hK hw zk_10 (k := 6) (by decide) rfl zm_1094 (Or.inl rfl) u2e zd_X10_newRemark_1 ?_
  refine zl_aload_n hx hb zd_X10_newRemark_4 rfl (lv_at hl 0 rfl) ?_
  replace hf := zo_b hf; obtain ⟨v3, ev3, hf⟩ := hf
  obtain ⟨u4, u4e, u4v⟩ := zo_b ev3
  obtain rfl := zv_i_e u4v
  refine zw_get S hK hw zk_10 (k := 5) (by decide) rfl zm_1093 (Or.inl rfl) u4e zd_X10_newRemark_5 ?_
  refine lv_iload_n hx hb zd_X10_newRemark_8 rfl (lv_at hl 1 rfl) ?_
  replace hf := zo_b hf; obtain ⟨a5, na5, hf⟩ := hf
  refine W.eq (g2 := F0 m 9 ls [.int (x1), .int (v3), va_rf ((some a5))]) (by rw [na5] <;> rfl) ?_
  replace hf := zo_b hf; obtain ⟨h6, eh6, hf⟩ := hf
  refine zw_iast S hK hw eh6 zd_X10_newRemark_9 (fun H locs hw => ?_)
  refine zl_aload_n hx hb zd_X10_newRemark_10 rfl (lv_at hl 0 rfl) ?_
  replace hf := zo_b hf; obtain ⟨v7, ev7, hf⟩ := hf
  obtain ⟨u8, u8e, u8v⟩ := zo_b ev7
  obtain rfl := zv_r_e u8v
  refine zw_get S hK hw zk_10 (k := 6) (by decide) rfl zm_1094 (Or.inl rfl) u8e zd_X10_newRemark_11 ?_
  refine lv_bipush (v := 16) hx hb zd_X10_newRemark_14 (by decide) ?_
  refine zl_aload_n hx hb zd_X10_newRemark_16 rfl (lv_at hl 0 rfl) ?_
  replace hf := zo_b hf; obtain ⟨v9, ev9, hf⟩ := hf
  obtain ⟨u10, u10e, u10v⟩ := zo_b ev9
  obtain rfl := zv_i_e u10v
  refine zw_get S hK hw zk_10 (k := 5) (by decide) rfl zm_1093 (Or.inl rfl) u10e zd_X10_newRemark_17 ?_
  refine lv_iadd hx hb zd_X10_newRemark_20 ?_
  refine lv_iload_n hx hb zd_X10_newRemark_21 rfl (lv_at hl 2 rfl) ?_
  replace hf := zo_b hf; obtain ⟨a11, na11, hf⟩ := hf
  refine W.eq (g2 := F0 m 22 ls [.int (x2), .int ((16 + v9)), va_rf ((some a11))]) (by rw [na11] <;> rfl) ?_
  replace hf := zo_b hf; obtain ⟨h12, eh12, hf⟩ := hf
  refine zw_iast S hK hw eh12 zd_X10_newRemark_22 (fun H locs hw => ?_)
  refine zl_aload_n hx hb zd_X10_newRemark_23 rfl (lv_at hl 0 rfl) ?_
  replace hf := zo_b hf; obtain ⟨v13, ev13, hf⟩ := hf
  obtain ⟨u14, u14e, u14v⟩ := zo_b ev13
  obtain rfl := zv_r_e u14v
  refine zw_get S hK hw zk_10 (k := 6) (by decide) rfl zm_1094 (Or.inl rfl) u14e zd_X10_newRemark_24 ?_
  refine lv_bipush (v := 32) hx hb zd_X10_newRemark_27 (by decide) ?_
  refine zl_aload_n hx hb zd_X10_newRemark_29 rfl (lv_at hl 0 rfl) ?_
  replace hf := zo_b hf; obtain ⟨v15, ev15, hf⟩ := hf
  obtain ⟨u16, u16e, u16v⟩ := zo_b ev15
  obtain rfl := zv_i_e u16v
  refine zw_get S hK hw zk_10 (k := 5) (by decide) rfl zm_1093 (Or.inl rfl) u16e zd_X10_newRemark_30 ?_
  refine lv_iadd hx hb zd_X10_newRemark_33 ?_
  refine lv_iload_n hx hb zd_X10_newRemark_34 rfl (lv_at hl 3 rfl) ?_
  replace hf := zo_b hf; obtain ⟨a17, na17, hf⟩ := hf
  refine W.eq (g2 := F0 m 35 ls [.int (x3), .int ((32 + v15)), va_rf ((some a17))]) (by rw [na17] <;> rfl) ?_
  replace hf := zo_b hf; obtain ⟨h18, eh18, hf⟩ := hf
  refine zw_iast S hK hw eh18 zd_X10_newRemark_35 (fun H locs hw => ?_)
  refine zl_aload_n hx hb zd_X10_newRemark_36 rfl (lv_at hl 0 rfl) ?_
  replace hf := zo_b hf; obtain ⟨v19, ev19, hf⟩ := hf
  obtain ⟨u20, u20e, u20v⟩ := zo_b ev19
  obtain rfl := zv_r_e u20v
  refine zw_get S hK hw zk_10 (k := 6) (by decide) rfl zm_1094 (Or.inl rfl) u20e zd_X10_newRemark_37 ?_
  refine lv_bipush (v := 48) hx hb zd_X10_newRemark_40 (by decide) ?_
  refine zl_aload_n hx hb zd_X10_newRemark_42 rfl (lv_at hl 0 rfl) ?_
  replace hf := zo_b hf; obtain ⟨v21, ev21, hf⟩ := hf
  obtain ⟨u22, u22e, u22v⟩ := zo_b ev21
  obtain rfl := zv_i_e u22v
  refine zw_get S hK hw zk_10 (k := 5) (by decide) rfl zm_1093 (Or.inl rfl) u22e zd_X10_newRemark_43 ?_
  refine lv_iadd hx hb zd_X10_newRemark_46 ?_
  refine lv_iload hx hb zd_X10_newRemark_47 (lv_at hl 4 rfl) ?_
  replace hf := zo_b hf; obtain ⟨a23, na23, hf⟩ := hf
  refine W.eq (g2 := F0 m 49 ls [.int (x4), .int ((48 + v21)), va_rf ((some a23))]) (by rw [na23] <;> rfl) ?_
  replace hf := zo_b hf; obtain ⟨h24, eh24, hf⟩ := hf
  refine zw_iast S hK hw eh24 zd_X10_newRemark_49 (fun H locs hw => ?_)
  refine zl_aload_n hx hb zd_X10_newRemark_50 rfl (lv_at hl 0 rfl) ?_
  replace hf := zo_b hf; obtain ⟨v25, ev25, hf⟩ := hf
  obtain ⟨u26, u26e, u26v⟩ := zo_b ev25
  obtain rfl := zv_r_e u26v
  refine zw_get S hK hw zk_10 (k := 6) (by decide) rfl zm_1094 (Or.inl rfl) u26e zd_X10_newRemark_51 ?_
  refine lv_bipush (v := 64) hx hb zd_X10_newRemark_54 (by decide) ?_
  refine zl_aload_n hx hb zd_X10_newRemark_56 rfl (lv_at hl 0 rfl) ?_
  replace hf := zo_b hf; obtain ⟨v27, ev27, hf⟩ := hf
  obtain ⟨u28, u28e, u28v⟩ := zo_b ev27
  obtain rfl := zv_i_e u28v
  refine zw_get S hK hw zk_10 (k := 5) (by decide) rfl zm_1093 (Or.inl rfl) u28e zd_X10_newRemark_57 ?_
  refine lv_iadd hx hb zd_X10_newRemark_60 ?_
  refine lv_iload hx hb zd_X10_newRemark_61 (lv_at hl 5 rfl) ?_
  replace hf := zo_b hf; obtain ⟨a29, na29, hf⟩ := hf
  refine W.eq (g2 := F0 m 63 ls [.int (x5), .int ((64 + v27)), va_rf ((some a29))]) (by rw [na29] <;> rfl) ?_
  replace hf := zo_b hf; obtain ⟨h30, eh30, hf⟩ := hf
  refine zw_iast S hK hw eh30 zd_X10_newRemark_63 (fun H locs hw => ?_)
  refine zl_aload_n hx hb zd_X10_newRemark_64 rfl (lv_at hl 0 rfl) ?_
  replace hf := zo_b hf; obtain ⟨v31, ev31, hf⟩ := hf
  obtain ⟨u32, u32e, u32v⟩ := zo_b ev31
  obtain rfl := zv_r_e u32v
  refine zw_get S hK hw zk_10 (k := 6) (by decide) rfl zm_1094 (Or.inl rfl) u32e zd_X10_newRemark_65 ?_
  refine lv_bipush (v := 80) hx hb zd_X10_newRemark_68 (by decide) ?_
  refine zl_aload_n hx hb zd_X10_newRemark_70 rfl (lv_at hl 0 rfl) ?_
  replace hf := zo_b hf; obtain ⟨v33, ev33, hf⟩ := hf
  obtain ⟨u34, u34e, u34v⟩ := zo_b ev33
  obtain rfl := zv_i_e u34v
  refine zw_get S hK hw zk_10 (k := 5) (by decide) rfl zm_1093 (Or.inl rfl) u34e zd_X10_newRemark_71 ?_
  refine lv_iadd hx hb zd_X10_newRemark_74 ?_
  refine lv_iload hx hb zd_X10_newRemark_75 (lv_at hl 6 rfl) ?_
  replace hf := zo_b hf; obtain ⟨a35, na35, hf⟩ := hf
  refine W.eq (g2 := F0 m 77 ls [.int (x6), .int ((80 + v33)), va_rf ((some a35))]) (by rw [na35] <;> rfl) ?_
  replace hf := zo_b hf; obtain ⟨h36, eh36, hf⟩ := hf
  refine zw_iast S hK hw eh36 zd_X10_newRemark_77 (fun H locs hw => ?_)
  refine zl_aload_n hx hb zd_X10_newRemark_78 rfl (lv_at hl 0 rfl) ?_
  replace hf := zo_b hf; obtain ⟨v37, ev37, hf⟩ := hf
  obtain ⟨u38, u38e, u38v⟩ := zo_b ev37
  obtain rfl := zv_r_e u38v
  refine zw_get S hK hw zk_10 (k := 6) (by decide) rfl zm_1094 (Or.inl rfl) u38e zd_X10_newRemark_79 ?_
  refine lv_bipush (v := 96) hx hb zd_X10_newRemark_82 (by decide) ?_
  refine zl_aload_n hx hb zd_X10_newRemark_84 rfl (lv_at hl 0 rfl) ?_
  replace hf := zo_b hf; obtain ⟨v39, ev39, hf⟩ := hf
  obtain ⟨u40, u40e, u40v⟩ := zo_b ev39
  obtain rfl := zv_i_e u40v
  refine zw_get S hK hw zk_10 (k := 5) (by decide) rfl zm_1093 (Or.inl rfl) u40e zd_X10_newRemark_85 ?_
  refine lv_iadd hx hb zd_X10_newRemark_88 ?_
  refine lv_iconst (v := 0) hx hb zd_X10_newRemark_89 (by decide) ?_
  replace hf := zo_b hf; obtain ⟨a41, na41, hf⟩ := hf
  refine W.eq (g2 := F0 m 90 ls [.int (0), .int ((96 + v39)), va_rf ((some a41))]) (by rw [na41] <;> rfl) ?_
  replace hf := zo_b hf; obtain ⟨h42, eh42, hf⟩ := hf
  refine zw_iast S hK hw eh42 zd_X10_newRemark_90 (fun H locs hw => ?_)
  refine zl_aload_n hx hb zd_X10_newRemark_91 rfl (lv_at hl 0 rfl) ?_
  refine lv_dup hx hb zd_X10_newRemark_92 rfl ?_
  replace hf := zo_b hf; obtain ⟨v43, ev43, hf⟩ := hf
  obtain ⟨u44, u44e, u44v⟩ := zo_b ev43
  obtain rfl := zv_i_e u44v
  refine zw_get S hK hw zk_10 (k := 5) (by decide) rfl zm_1093 (Or.inl rfl) u44e zd_X10_newRemark_93 ?_
  refine lv_dup_x1 hx hb zd_X10_newRemark_96 rfl rfl ?_
  refine lv_iconst (v := 1) hx hb zd_X10_newRemark_97 (by decide) ?_
  refine lv_iadd hx hb zd_X10_newRemark_98 ?_
  replace hf := zo_b hf; obtain ⟨h45, eh45, hf⟩ := hf
  refine zw_put S hK hw zk_10 (k := 5) (by decide) rfl zm_1093 (Or.inl rfl) eh45 (ty := .int) (by decide +kernel) rfl rfl zd_X10_newRemark_99 (fun H locs hw => ?_)
  have hres := Option.some.inj hf; subst hres
  exact zw_iret (v := v43) (ty := .int) hx hb hr hlk rfl hw zd_X10_newRemark_102 (Nat.le_refl 0) (Nat.le_refl 0)
def zf_X10_remark (h : zc_H) (q : Nat) (x1 : Int32) (x2 : Int32) (x3 : Int32) (x4 : Int32) (x5 : Int32) (x6 : Int32) : Option (zc_H × Int32) :=
  if ¬ zf_is h q 10 = true then none else
  (zf_X10_within h x1 0 6).bind fun r1 =>
  let k33 := fun (_ : Unit) =>
    (zf_X10_no h q (-1)).bind fun r3 =>
    some (r3.1, r3.2)
  if r1 = 0 then
    k33 ()
  else
  (zf_X10_isRevision h q x3).bind fun r4 =>
  if r4 = 0 then
    k33 ()
  else
  let k39 := fun (_ : Unit) =>
    (zf_X10_isLine h q x3 x4).bind fun r7 =>
    let k66 := fun (_ : Unit) =>
      (zf_X10_no h q (-5)).bind fun r9 =>
      some (r9.1, r9.2)
    if r7 = 0 then
      k66 ()
    else
    (zf_X10_isLine h q x3 x5).bind fun r10 =>
    if r10 = 0 then
      k66 ()
    else
    if x4 ≤ x5 then
      (zf_X10_within h x2 0 9).bind fun r13 =>
      if r13 = 0 then
        (zf_X10_no h q (-6)).bind fun r20 =>
        some (r20.1, r20.2)
      else
      (zf_gi h q 10 5).bind fun v15 =>
      if v15 = 16 then
        (zf_X10_no h q (-7)).bind fun r19 =>
        some (r19.1, r19.2)
      else
      (zf_X10_newRemark h q x1 x2 x3 x4 x5 x6).bind fun r18 =>
      some (r18.1, r18.2)
    else
    k66 ()
  if x6 = (-1) then
    k39 ()
  else
  (zf_X10_isRemark h q x6).bind fun r21 =>
  if r21 = 0 then
    k33 ()
  else
  k39 ()
abbrev zr_X10_remark : Room := { frames := 2, cells := 0, slots := 0, locals := 44 }
theorem zi_X10_remark {h : zc_H} {q : Nat} {x1 : Int32} {x2 : Int32} {x3 : Int32} {x4 : Int32} {x5 : Int32} {x6 : Int32} {res : zc_H × Int32} (hf : zf_X10_remark h q x1 x2 x3 x4 x5 x6 = some res) : zf_is h q 10 = true := Decidable.not_not.mp (zo_n hf).1
set_option maxHeartbeats 4000000 in
set_option maxRecDepth 20000 in
theorem zt_X10_remark (l : Launch) (g : zc_G) (h : zc_H) (q : Nat) (x1 : Int32) (x2 : Int32) (x3 : Int32) (x4 : Int32) (x5 : Int32) (x6 : Int32) (res : zc_H × Int32) (hf : zf_X10_remark h q x1 x2 x3 x4 x5 x6 = some res) : zc_M l g yX10_remark cX10_remark 7 (some .int) zr_X10_remark h [va_rf ((some q)), .int (x1), .int (x2), .int (x3), .int (x4), .int (x5), .int (x6)] res.1 (some (.int (res.2))) := by
  refine zc_M.of (by decide) (by simp [lg_sl, zv_cat, zv_ci, zv_cj]) ?_
  intro p e s m below meth c ls S hK hw hr hlk hnm hl
  replace S : CallFix p m c cX10_remark 7 s [va_rf ((some q)), .int (x1), .int (x2), .int (x3), .int (x4), .int (x5), .int (x6)].toArray (zc_ws yX10_remark cX10_remark 7 (some .int)) RX10 := S
  have hx := S.1
  have hb := S.2.1
  replace hl : lv_has ls 7 [(0, va_rf ((some q))), (1, .int (x1)), (2, .int (x2)), (3, .int (x3)), (4, .int (x4)), (5, .int (x5)), (6, .int (x6))] := by simpa [lv_args, zv_cat, zv_ci, zv_cj] using hl
  generalize s.heap = H at hw ⊢
  obtain ⟨locs, hlocs⟩ : ∃ L : List Loc, L = [] := ⟨_, rfl⟩
  rw [← hlocs] at hw ⊢
  unfold zf_X10_remark at hf
  obtain ⟨-, hf⟩ := zo_n hf
  refine lv_iload_n hx hb zd_X10_remark_0 rfl (lv_at hl 1 rfl) ?_
  refine lv_iconst (v := 0) hx hb zd_X10_remark_1 (by decide) ?_
  refine lv_bipush (v := 6) hx hb zd_X10_remark_2 (by decide) ?_
  replace hf := zo_b hf; obtain ⟨r1, er1, hf⟩ := hf
  refine zw_callS (n := 3) (As := [.int (x1), .int (0), .int (6)]) (rest := []) S hK hw (zt_X10_within l g h x1 0 6 _ er1) zm_1216 zm_1217 zq_X10_within zm_79 (by decide +kernel) ⟨Nat.le_of_ble_eq_true rfl, Nat.le_of_ble_eq_true rfl⟩ rfl hl.1 rfl (by simp [zv_cat, zv_ci, zv_cj]) zd_X10_remark_4 ⟨(Nat.le_refl 0), (Nat.le_refl 0)⟩ (fun H locs hw => ?_)
  replace hw : zc_W g h H locs := hw
  have k33h : ∀ (_ : Unit) (H : Heap) (locs : List Loc) (ls : Array Slot), (
      (zf_X10_no h q (-1)).bind fun r3 =>
      some (r3.1, r3.2)
      ) = some res → zc_W g h H locs → lv_has ls 7 [(0, va_rf ((some q)))] → W p l e zr_X10_remark s m [va_rf ((some q)), .int (x1), .int (x2), .int (x3), .int (x4), .int (x5), .int (x6)].toArray below meth c H locs (0 + 0) (0 + 0) (zc_Q g below zr_X10_remark (some (.int (res.2))) res.1 [va_rf ((some q)), .int (x1), .int (x2), .int (x3), .int (x4), .int (x5), .int (x6)] s) (F0 m 33 ls []) := by
    intro _ H locs ls hf hw hl
    refine zl_aload_n hx hb zd_X10_remark_33 rfl (lv_at hl 0 rfl) ?_
    refine lv_iconst (v := (-1)) hx hb zd_X10_remark_34 (by decide) ?_
    replace hf := zo_b hf; obtain ⟨r3, er3, hf⟩ := hf
    refine zw_callV (n := 1) (ci := 10) (q := zc_cl[10]) (As := [.int ((-1))]) (rest := []) S hK hw (zt_X10_no l g h q (-1) _ er3) zm_1219 zm_1221 zm_24 zq_X10_no zm_79 (by decide +kernel) ⟨Nat.le_of_ble_eq_true rfl, Nat.le_of_ble_eq_true rfl⟩ rfl rfl rfl (zi_X10_no er3) hl.1 rfl (by simp [zv_cat, zv_ci, zv_cj]) zd_X10_remark_35 ⟨(Nat.le_refl 0), (Nat.le_refl 0)⟩ (fun H locs hw => ?_)
    replace hw : zc_W g r3.1 H locs := hw
    have hres := Option.some.inj hf; subst hres
    exact zw_iret (v := r3.2) (ty := .int) hx hb hr hlk rfl hw zd_X10_remark_38 (Nat.le_refl 0) (Nat.le_refl 0)
  refine lv_if_eq (tgt := 33) hx hb zd_X10_remark_7 (by decide) (fun c2 => ?_) (fun c2 => ?_)
  · replace hf := zo_t c2 hf
    exact k33h () _ _ _ hf hw (lv_sub hl [0] rfl)
  · replace hf := zo_f c2 hf
    refine zl_aload_n hx hb zd_X10_remark_10 rfl (lv_at hl 0 rfl) ?_
    refine lv_iload_n hx hb zd_X10_remark_11 rfl (lv_at hl 3 rfl) ?_
    replace hf := zo_b hf; obtain ⟨r4, er4, hf⟩ := hf
    refine zw_callV (n := 1) (ci := 10) (q := zc_cl[10]) (As := [.int (x3)]) (rest := []) S hK hw (zt_X10_isRevision l g h q x3 _ er4) zm_1273 zm_1275 zm_29 zq_X10_isRevision zm_79 (by decide +kernel) ⟨Nat.le_of_ble_eq_true rfl, Nat.le_of_ble_eq_true rfl⟩ rfl rfl rfl (zi_X10_isRevision er4) hl.1 rfl (by simp [zv_cat, zv_ci, zv_cj]) zd_X10_remark_12 ⟨(Nat.le_refl 0), (Nat.le_refl 0)⟩ (fun H locs hw => ?_)
    replace hw : zc_W g h H locs := hw
    refine lv_if_eq (tgt := 33) hx hb zd_X10_remark_15 (by decide) (fun c5 => ?_) (fun c5 => ?_)
    · replace hf := zo_t c5 hf
      exact k33h () _ _ _ hf hw (lv_sub hl [0] rfl)
    · replace hf := zo_f c5 hf
      refine lv_iload hx hb zd_X10_remark_18 (lv_at hl 6 rfl) ?_
      refine lv_iconst (v := (-1)) hx hb zd_X10_remark_20 (by decide) ?_
      have k39h : ∀ (_ : Unit) (H : Heap) (locs : List Loc) (ls : Array Slot), (
          (zf_X10_isLine h q x3 x4).bind fun r7 =>
          let k66 := fun (_ : Unit) =>
            (zf_X10_no h q (-5)).bind fun r9 =>
            some (r9.1, r9.2)
          if r7 = 0 then
            k66 ()
          else
          (zf_X10_isLine h q x3 x5).bind fun r10 =>
          if r10 = 0 then
            k66 ()
          else
          if x4 ≤ x5 then
            (zf_X10_within h x2 0 9).bind fun r13 =>
            if r13 = 0 then
              (zf_X10_no h q (-6)).bind fun r20 =>
              some (r20.1, r20.2)
            else
            (zf_gi h q 10 5).bind fun v15 =>
            if v15 = 16 then
              (zf_X10_no h q (-7)).bind fun r19 =>
              some (r19.1, r19.2)
            else
            (zf_X10_newRemark h q x1 x2 x3 x4 x5 x6).bind fun r18 =>
            some (r18.1, r18.2)
          else
          k66 ()
          ) = some res → zc_W g h H locs → lv_has ls 7 [(0, va_rf ((some q))), (1, .int (x1)), (2, .int (x2)), (3, .int (x3)), (4, .int (x4)), (5, .int (x5)), (6, .int (x6))] → W p l e zr_X10_remark s m [va_rf ((some q)), .int (x1), .int (x2), .int (x3), .int (x4), .int (x5), .int (x6)].toArray below meth c H locs ((0 + 0) + 0) ((0 + 0) + 0) (zc_Q g below zr_X10_remark (some (.int (res.2))) res.1 [va_rf ((some q)), .int (x1), .int (x2), .int (x3), .int (x4), .int (x5), .int (x6)] s) (F0 m 39 ls []) := by
        intro _ H locs ls hf hw hl
        refine zl_aload_n hx hb zd_X10_remark_39 rfl (lv_at hl 0 rfl) ?_
        refine lv_iload_n hx hb zd_X10_remark_40 rfl (lv_at hl 3 rfl) ?_
        refine lv_iload hx hb zd_X10_remark_41 (lv_at hl 4 rfl) ?_
        replace hf := zo_b hf; obtain ⟨r7, er7, hf⟩ := hf
        refine zw_callV (n := 2) (ci := 10) (q := zc_cl[10]) (As := [.int (x3), .int (x4)]) (rest := []) S hK hw (zt_X10_isLine l g h q x3 x4 _ er7) zm_1326 zm_1328 zm_39 zq_X10_isLine zm_79 (by decide +kernel) ⟨Nat.le_of_ble_eq_true rfl, Nat.le_of_ble_eq_true rfl⟩ rfl rfl rfl (zi_X10_isLine er7) hl.1 rfl (by simp [zv_cat, zv_ci, zv_cj]) zd_X10_remark_43 ⟨(Nat.le_refl 0), (Nat.le_refl 0)⟩ (fun H locs hw => ?_)
        replace hw : zc_W g h H locs := hw
        have k66h : ∀ (_ : Unit) (H : Heap) (locs : List Loc) (ls : Array Slot), (
            (zf_X10_no h q (-5)).bind fun r9 =>
            some (r9.1, r9.2)
            ) = some res → zc_W g h H locs → lv_has ls 7 [(0, va_rf ((some q)))] → W p l e zr_X10_remark s m [va_rf ((some q)), .int (x1), .int (x2), .int (x3), .int (x4), .int (x5), .int (x6)].toArray below meth c H locs (((0 + 0) + 0) + 0) (((0 + 0) + 0) + 0) (zc_Q g below zr_X10_remark (some (.int (res.2))) res.1 [va_rf ((some q)), .int (x1), .int (x2), .int (x3), .int (x4), .int (x5), .int (x6)] s) (F0 m 66 ls []) := by
          intro _ H locs ls hf hw hl
          refine zl_aload_n hx hb zd_X10_remark_66 rfl (lv_at hl 0 rfl) ?_
          refine lv_bipush (v := (-5)) hx hb zd_X10_remark_67 (by decide) ?_
          replace hf := zo_b hf; obtain ⟨r9, er9, hf⟩ := hf
          refine zw_callV (n := 1) (ci := 10) (q := zc_cl[10]) (As := [.int ((-5))]) (rest := []) S hK hw (zt_X10_no l g h q (-5) _ er9) zm_1219 zm_1221 zm_24 zq_X10_no zm_79 (by decide +kernel) ⟨Nat.le_of_ble_eq_true rfl, Nat.le_of_ble_eq_true rfl⟩ rfl rfl rfl (zi_X10_no er9) hl.1 rfl (by simp [zv_cat, zv_ci, zv_cj]) zd_X10_remark_69 ⟨(Nat.le_refl 0), (Nat.le_refl 0)⟩ (fun H locs hw => ?_)
          replace hw : zc_W g r9.1 H locs := hw
          have hres := Option.some.inj hf; subst hres
          exact zw_iret (v := r9.2) (ty := .int) hx hb hr hlk rfl hw zd_X10_remark_72 (Nat.le_refl 0) (Nat.le_refl 0)
        refine lv_if_eq (tgt := 66) hx hb zd_X10_remark_46 (by decide) (fun c8 => ?_) (fun c8 => ?_)
        · replace hf := zo_t c8 hf
          exact k66h () _ _ _ hf hw (lv_sub hl [0] rfl)
        · replace hf := zo_f c8 hf
          refine zl_aload_n hx hb zd_X10_remark_49 rfl (lv_at hl 0 rfl) ?_
          refine lv_iload_n hx hb zd_X10_remark_50 rfl (lv_at hl 3 rfl) ?_
          refine lv_iload hx hb zd_X10_remark_51 (lv_at hl 5 rfl) ?_
          replace hf := zo_b hf; obtain ⟨r10, er10, hf⟩ := hf
          refine zw_callV (n := 2) (ci := 10) (q := zc_cl[10]) (As := [.int (x3), .int (x5)]) (rest := []) S hK hw (zt_X10_isLine l g h q x3 x5 _ er10) zm_1326 zm_1328 zm_39 zq_X10_isLine zm_79 (by decide +kernel) ⟨Nat.le_of_ble_eq_true rfl, Nat.le_of_ble_eq_true rfl⟩ rfl rfl rfl (zi_X10_isLine er10) hl.1 rfl (by simp [zv_cat, zv_ci, zv_cj]) zd_X10_remark_53 ⟨(Nat.le_refl 0), (Nat.le_refl 0)⟩ (fun H locs hw => ?_)
          replace hw : zc_W g h H locs := hw
          refine lv_if_eq (tgt := 66) hx hb zd_X10_remark_56 (by decide) (fun c11 => ?_) (fun c11 => ?_)
          · replace hf := zo_t c11 hf
            exact k66h () _ _ _ hf hw (lv_sub hl [0] rfl)
          · replace hf := zo_f c11 hf
            refine lv_iload hx hb zd_X10_remark_59 (lv_at hl 5 rfl) ?_
            refine lv_iload hx hb zd_X10_remark_61 (lv_at hl 4 rfl) ?_
            refine lv_icmp_ge (tgt := 73) hx hb zd_X10_remark_63 (by decide) (fun c12 => ?_) (fun c12 => ?_)
            · replace hf := zo_t c12 hf
              refine lv_iload_n hx hb zd_X10_remark_73 rfl (lv_at hl 2 rfl) ?_
              refine lv_iconst (v := 0) hx hb zd_X10_remark_74 (by decide) ?_
              refine lv_bipush (v := 9) hx hb zd_X10_remark_75 (by decide) ?_
              replace hf := zo_b hf; obtain ⟨r13, er13, hf⟩ := hf
              refine zw_callS (n := 3) (As := [.int (x2), .int (0), .int (9)]) (rest := []) S hK hw (zt_X10_within l g h x2 0 9 _ er13) zm_1216 zm_1217 zq_X10_within zm_79 (by decide +kernel) ⟨Nat.le_of_ble_eq_true rfl, Nat.le_of_ble_eq_true rfl⟩ rfl hl.1 rfl (by simp [zv_cat, zv_ci, zv_cj]) zd_X10_remark_77 ⟨(Nat.le_refl 0), (Nat.le_refl 0)⟩ (fun H locs hw => ?_)
              replace hw : zc_W g h H locs := hw
              refine lv_if_ne (tgt := 90) hx hb zd_X10_remark_80 (by decide) (fun c14 => ?_) (fun c14 => ?_)
              · replace hf := zo_f c14 hf
                refine zl_aload_n hx hb zd_X10_remark_90 rfl (lv_at hl 0 rfl) ?_
                replace hf := zo_b hf; obtain ⟨v15, ev15, hf⟩ := hf
                obtain ⟨u16, u16e, u16v⟩ := zo_b ev15
                obtain rfl := zv_i_e u16v
                refine zw_get S hK hw zk_10 (k := 5) (by decide) rfl zm_1093 (Or.inl rfl) u16e zd_X10_remark_91 ?_
                refine lv_bipush (v := 16) hx hb zd_X10_remark_94 (by decide) ?_
                refine lv_icmp_ne (tgt := 108) hx hb zd_X10_remark_96 (by decide) (fun c17 => ?_) (fun c17 => ?_)
                · replace hf := zo_f c17 hf
                  refine zl_aload_n hx hb zd_X10_remark_108 rfl (lv_at hl 0 rfl) ?_
                  refine lv_iload_n hx hb zd_X10_remark_109 rfl (lv_at hl 1 rfl) ?_
                  refine lv_iload_n hx hb zd_X10_remark_110 rfl (lv_at hl 2 rfl) ?_
                  refine lv_iload_n hx hb zd_X10_remark_111 rfl (lv_at hl 3 rfl) ?_
                  refine lv_iload hx hb zd_X10_remark_112 (lv_at hl 4 rfl) ?_
                  refine lv_iload hx hb zd_X10_remark_114 (lv_at hl 5 rfl) ?_
                  refine lv_iload hx hb zd_X10_remark_116 (lv_at hl 6 rfl) ?_
                  replace hf := zo_b hf; obtain ⟨r18, er18, hf⟩ := hf
                  refine zw_callV (n := 6) (ci := 10) (q := zc_cl[10]) (As := [.int (x1), .int (x2), .int (x3), .int (x4), .int (x5), .int (x6)]) (rest := []) S hK hw (zt_X10_newRemark l g h q x1 x2 x3 x4 x5 x6 _ er18) zm_1371 zm_1373 zm_43 zq_X10_newRemark zm_79 (by decide +kernel) ⟨Nat.le_of_ble_eq_true rfl, Nat.le_of_ble_eq_true rfl⟩ rfl rfl rfl (zi_X10_newRemark er18) hl.1 rfl (by simp [zv_cat, zv_ci, zv_cj]) zd_X10_remark_118 ⟨(Nat.le_refl 0), (Nat.le_refl 0)⟩ (fun H locs hw => ?_)
                  replace hw : zc_W g r18.1 H locs := hw
                  have hres := Option.some.inj hf; subst hres
                  exact zw_iret (v := r18.2) (ty := .int) hx hb hr hlk rfl hw zd_X10_remark_121 (Nat.le_refl 0) (Nat.le_refl 0)
                · replace hf := zo_t c17 hf
                  refine zl_aload_n hx hb zd_X10_remark_99 rfl (lv_at hl 0 rfl) ?_
                  refine lv_bipush (v := (-7)) hx hb zd_X10_remark_100 (by decide) ?_
                  replace hf := zo_b hf; obtain ⟨r19, er19, hf⟩ := hf
                  refine zw_callV (n := 1) (ci := 10) (q := zc_cl[10]) (As := [.int ((-7))]) (rest := []) S hK hw (zt_X10_no l g h q (-7) _ er19) zm_1219 zm_1221 zm_24 zq_X10_no zm_79 (by decide +kernel) ⟨Nat.le_of_ble_eq_true rfl, Nat.le_of_ble_eq_true rfl⟩ rfl rfl rfl (zi_X10_no er19) hl.1 rfl (by simp [zv_cat, zv_ci, zv_cj]) zd_X10_remark_102 ⟨(Nat.le_refl 0), (Nat.le_refl 0)⟩ (fun H locs hw => ?_)
                  replace hw : zc_W g r19.1 H locs := hw
                  refine lv_goto (tgt := 121) hx hb zd_X10_remark_105 (by decide) ?_
                  have hres := Option.some.inj hf; subst hres
                  exact zw_iret (v := r19.2) (ty := .int) hx hb hr hlk rfl hw zd_X10_remark_121 (Nat.le_refl 0) (Nat.le_refl 0)
              · replace hf := zo_t c14 hf
                refine zl_aload_n hx hb zd_X10_remark_83 rfl (lv_at hl 0 rfl) ?_
                refine lv_bipush (v := (-6)) hx hb zd_X10_remark_84 (by decide) ?_
                replace hf := zo_b hf; obtain ⟨r20, er20, hf⟩ := hf
                refine zw_callV (n := 1) (ci := 10) (q := zc_cl[10]) (As := [.int ((-6))]) (rest := []) S hK hw (zt_X10_no l g h q (-6) _ er20) zm_1219 zm_1221 zm_24 zq_X10_no zm_79 (by decide +kernel) ⟨Nat.le_of_ble_eq_true rfl, Nat.le_of_ble_eq_true rfl⟩ rfl rfl rfl (zi_X10_no er20) hl.1 rfl (by simp [zv_cat, zv_ci, zv_cj]) zd_X10_remark_86 ⟨(Nat.le_refl 0), (Nat.le_refl 0)⟩ (fun H locs hw => ?_)
                replace hw : zc_W g r20.1 H locs := hw
                have hres := Option.some.inj hf; subst hres
                exact zw_iret (v := r20.2) (ty := .int) hx hb hr hlk rfl hw zd_X10_remark_89 (Nat.le_refl 0) (Nat.le_refl 0)
            · replace hf := zo_f c12 hf
              exact k66h () _ _ _ hf hw (lv_sub hl [0] rfl)
      refine lv_icmp_eq (tgt := 39) hx hb zd_X10_remark_21 (by decide) (fun c6 => ?_) (fun c6 => ?_)
      · replace hf := zo_t c6 hf
        exact k39h () _ _ _ hf hw (lv_sub hl [0, 1, 2, 3, 4, 5, 6] rfl)
      · replace hf := zo_f c6 hf
        refine zl_aload_n hx hb zd_X10_remark_24 rfl (lv_at hl 0 rfl) ?_
        refine lv_iload hx hb zd_X10_remark_25 (lv_at hl 6 rfl) ?_
        replace hf := zo_b hf; obtain ⟨r21, er21, hf⟩ := hf
        refine zw_callV (n := 1) (ci := 10) (q := zc_cl[10]) (As := [.int (x6)]) (rest := []) S hK hw (zt_X10_isRemark l g h q x6 _ er21) zm_1247 zm_1249 zm_27 zq_X10_isRemark zm_79 (by decide +kernel) ⟨Nat.le_of_ble_eq_true rfl, Nat.le_of_ble_eq_true rfl⟩ rfl rfl rfl (zi_X10_isRemark er21) hl.1 rfl (by simp [zv_cat, zv_ci, zv_cj]) zd_X10_remark_27 ⟨(Nat.le_refl 0), (Nat.le_refl 0)⟩ (fun H locs hw => ?_)
        replace hw : zc_W g h H locs := hw
        refine lv_if_ne (tgt := 39) hx hb zd_X10_remark_30 (by decide) (fun c22 => ?_) (fun c22 => ?_)
        · replace hf := zo_f c22 hf
          exact k39h () _ _ _ hf hw (lv_sub hl [0, 1, 2, 3, 4, 5, 6] rfl)
        · replace hf := zo_t c22 hf
          exact k33h () _ _ _ hf hw (lv_sub hl [0] rfl)
def zf_X10_depth_L9 (h : zc_H) (q : Nat) : Nat → Int32 → Int32 → Option (Int32)
  | 0, _, _ => none
  | n + 1, y2, y3 =>
    if y3 = (-1) then
      some y2
    else
    (zf_X10_of h q 5 y3).bind fun r3 =>
    zf_X10_depth_L9 h q n (y2 + 1) r3
def zf_X10_depth (h : zc_H) (q : Nat) (x1 : Int32) : Option (Int32) :=
  if ¬ zf_is h q 10 = true then none else
  (zf_X10_of h q 5 x1).bind fun r1 =>
  (zf_X10_depth_L9 h q 2000 0 r1).bind fun w4 =>
  some w4
abbrev zr_X10_depth : Room := { frames := 1, cells := 0, slots := 0, locals := 22 }
theorem zi_X10_depth {h : zc_H} {q : Nat} {x1 : Int32} {res : Int32} (hf : zf_X10_depth h q x1 = some res) : zf_is h q 10 = true := Decidable.not_not.mp (zo_n hf).1
set_option maxHeartbeats 4000000 in
set_option maxRecDepth 20000 in
theorem zt_X10_depth (l : Launch) (g : zc_G) (h : zc_H) (q : Nat) (x1 : Int32) (res : Int32) (hf : zf_X10_depth h q x1 = some res) : zc_M l g yX10_depth cX10_depth 4 (some .int) zr_X10_depth h [va_rf ((some q)), .int (x1)] h (some (.int (res))) := by
  refine zc_M.of (by decide) (by simp [lg_sl, zv_cat, zv_ci, zv_cj]) ?_
  intro p e s m below meth c ls S hK hw hr hlk hnm hl
  replace S : CallFix p m c cX10_depth 4 s [va_rf ((some q)), .int (x1)].toArray (zc_ws yX10_depth cX10_depth 4 (some .int)) RX10 := S
  have hx := S.1
  have hb := S.2.1
  replace hl : lv_has ls 4 [(0, va_rf ((some q))), (1, .int (x1))] := by simpa [lv_args, zv_cat, zv_ci, zv_cj] using hl
  generalize s.heap = H at hw ⊢
  obtain ⟨locs, hlocs⟩ : ∃ L : List Loc, L = [] := ⟨_, rfl⟩
  rw [← hlocs] at hw ⊢
  have L9 : ∀ (h : zc_H) (n : Nat) (y2 : Int32) (y3 : Int32) (w : Int32) (H : Heap) (locs : List Loc) (ls : Array Slot), zf_X10_depth_L9 h q n y2 y3 = some w → zc_W g h H locs → lv_has ls 4 [(0, va_rf ((some q))), (2, .int (y2)), (3, .int (y3))] → (∀ (H : Heap) (locs : List Loc) (ls : Array Slot), zc_W g h H locs → lv_has ls 4 [(2, .int (w))] → W p l e zr_X10_depth s m [va_rf ((some q)), .int (x1)].toArray below meth c H locs 0 0 (zc_Q g below zr_X10_depth (some (.int (res))) h [va_rf ((some q)), .int (x1)] s) (F0 m 27 ls [])) → W p l e zr_X10_depth s m [va_rf ((some q)), .int (x1)].toArray below meth c H locs 0 0 (zc_Q g below zr_X10_depth (some (.int (res))) h [va_rf ((some q)), .int (x1)] s) (F0 m 9 ls []) := by
    intro h n
    induction n with
    | zero =>
      intro y2 y3 w H locs ls hf
      cases hf
    | succ n ih =>
      intro y2 y3 w H locs ls hf hw hl  kk
      unfold zf_X10_depth_L9 at hf
      refine lv_iload_n hx hb zd_X10_depth_9 rfl (lv_at hl 2 rfl) ?_
      refine lv_iconst (v := (-1)) hx hb zd_X10_depth_10 (by decide) ?_
      refine lv_icmp_eq (tgt := 27) hx hb zd_X10_depth_11 (by decide) (fun c2 => ?_) (fun c2 => ?_)
      · replace hf := zo_t c2 hf
        have hres := Option.some.inj hf; subst hres
        exact kk _ _ _ hw (lv_sub hl [1] rfl)
      · replace hf := zo_f c2 hf
        refine lv_iinc (i := 2) (v := (y2 + 1)) (lv' := [(2, .int ((y2 + 1))), (0, va_rf ((some q))), (3, .int (y3))]) hx hb zd_X10_depth_14 hl (k := 1) rfl (congrArg (_ + ·) (by decide)) (by decide) rfl (fun ls hl => ?_)
        refine zl_aload_n hx hb zd_X10_depth_17 rfl (lv_at hl 1 rfl) ?_
        refine lv_iconst (v := 5) hx hb zd_X10_depth_18 (by decide) ?_
        refine lv_iload_n hx hb zd_X10_depth_19 rfl (lv_at hl 2 rfl) ?_
        replace hf := zo_b hf; obtain ⟨r3, er3, hf⟩ := hf
        refine zw_callV (n := 2) (ci := 10) (q := zc_cl[10]) (As := [.int (5), .int (y3)]) (rest := []) S hK hw (zt_X10_of l g h q 5 y3 _ er3) zm_1259 zm_1261 zm_28 zq_X10_of zm_79 (by decide +kernel) ⟨Nat.le_of_ble_eq_true rfl, Nat.le_of_ble_eq_true rfl⟩ rfl rfl rfl (zi_X10_of er3) hl.1 rfl (by simp [zv_cat, zv_ci, zv_cj]) zd_X10_depth_20 ⟨(Nat.le_refl 0), (Nat.le_refl 0)⟩ (fun H locs hw => ?_)
        replace hw : zc_W g h H locs := hw
        refine lv_istore_n (i := 3) (lv' := [(3, .int (r3)), (2, .int ((y2 + 1))), (0, va_rf ((some q)))]) hx hb zd_X10_depth_23 rfl hl (by decide) rfl (fun ls hl => ?_)
        refine lv_goto (tgt := 9) hx hb zd_X10_depth_24 (by decide) ?_
        exact ih (y2 + 1) r3 _ _ _ _ hf hw (lv_sub hl [2, 1, 0] rfl) kk
  unfold zf_X10_depth at hf
  obtain ⟨-, hf⟩ := zo_n hf
  refine lv_iconst (v := 0) hx hb zd_X10_depth_0 (by decide) ?_
  refine lv_istore_n (i := 2) (lv' := [(2, .int (0)), (0, va_rf ((some q))), (1, .int (x1))]) hx hb zd_X10_depth_1 rfl hl (by decide) rfl (fun ls hl => ?_)
  refine zl_aload_n hx hb zd_X10_depth_2 rfl (lv_at hl 1 rfl) ?_
  refine lv_iconst (v := 5) hx hb zd_X10_depth_3 (by decide) ?_
  refine lv_iload_n hx hb zd_X10_depth_4 rfl (lv_at hl 2 rfl) ?_
  replace hf := zo_b hf; obtain ⟨r1, er1, hf⟩ := hf
  refine zw_callV (n := 2) (ci := 10) (q := zc_cl[10]) (As := [.int (5), .int (x1)]) (rest := []) S hK hw (zt_X10_of l g h q 5 x1 _ er1) zm_1259 zm_1261 zm_28 zq_X10_of zm_79 (by decide +kernel) ⟨Nat.le_of_ble_eq_true rfl, Nat.le_of_ble_eq_true rfl⟩ rfl rfl rfl (zi_X10_of er1) hl.1 rfl (by simp [zv_cat, zv_ci, zv_cj]) zd_X10_depth_5 ⟨(Nat.le_refl 0), (Nat.le_refl 0)⟩ (fun H locs hw => ?_)
  replace hw : zc_W g h H locs := hw
  refine lv_istore_n (i := 3) (lv' := [(3, .int (r1)), (2, .int (0)), (0, va_rf ((some q))), (1, .int (x1))]) hx hb zd_X10_depth_8 rfl hl (by decide) rfl (fun ls hl => ?_)
  replace hf := zo_b hf; obtain ⟨w4, w4e, hf⟩ := hf
  refine L9 h  2000 0 r1 _ _ _ _ w4e hw (lv_sub hl [2, 1, 0] rfl) (fun H locs ls hw hl => ?_)
  refine lv_iload_n hx hb zd_X10_depth_27 rfl (lv_at hl 0 rfl) ?_
  have hres := Option.some.inj hf; subst hres
  exact zw_iret (v := w4) (ty := .int) hx hb hr hlk rfl hw zd_X10_depth_28 (Nat.le_refl 0) (Nat.le_refl 0)
def zf_X10_isIn_L7 (h : zc_H) (q : Nat) (y2 : Int32) : Nat → Int32 → Option (Int32)
  | 0, _ => none
  | n + 1, y3 =>
    if y3 = (-1) then
      some y3
    else
    if y3 = y2 then
      some y3
    else
    (zf_X10_of h q 5 y3).bind fun r4 =>
    zf_X10_isIn_L7 h q y2 n r4
def zf_X10_isIn (h : zc_H) (q : Nat) (x1 : Int32) (x2 : Int32) : Option (Int32) :=
  if ¬ zf_is h q 10 = true then none else
  (zf_X10_of h q 5 x1).bind fun r1 =>
  (zf_X10_isIn_L7 h q x2 2000 r1).bind fun w5 =>
  if w5 = x2 then
    some 1
  else
  some 0
abbrev zr_X10_isIn : Room := { frames := 1, cells := 0, slots := 0, locals := 22 }
theorem zi_X10_isIn {h : zc_H} {q : Nat} {x1 : Int32} {x2 : Int32} {res : Int32} (hf : zf_X10_isIn h q x1 x2 = some res) : zf_is h q 10 = true := Decidable.not_not.mp (zo_n hf).1
set_option maxHeartbeats 4000000 in
set_option maxRecDepth 20000 in
theorem zt_X10_isIn (l : Launch) (g : zc_G) (h : zc_H) (q : Nat) (x1 : Int32) (x2 : Int32) (res : Int32) (hf : zf_X10_isIn h q x1 x2 = some res) : zc_M l g yX10_isIn cX10_isIn 4 (some .boolean) zr_X10_isIn h [va_rf ((some q)), .int (x1), .int (x2)] h (some (.int (res))) := by
  refine zc_M.of (by decide) (by simp [lg_sl, zv_cat, zv_ci, zv_cj]) ?_
  intro p e s m below meth c ls S hK hw hr hlk hnm hl
  replace S : CallFix p m c cX10_isIn 4 s [va_rf ((some q)), .int (x1), .int (x2)].toArray (zc_ws yX10_isIn cX10_isIn 4 (some .boolean)) RX10 := S
  have hx := S.1
  have hb := S.2.1
  replace hl : lv_has ls 4 [(0, va_rf ((some q))), (1, .int (x1)), (2, .int (x2))] := by simpa [lv_args, zv_cat, zv_ci, zv_cj] using hl
  generalize s.heap = H at hw ⊢
  obtain ⟨locs, hlocs⟩ : ∃ L : List Loc, L = [] := ⟨_, rfl⟩
  rw [← hlocs] at hw ⊢
  have L7 : ∀ (h : zc_H) (y2 : Int32) (n : Nat) (y3 : Int32) (w : Int32) (H : Heap) (locs : List Loc) (ls : Array Slot), zf_X10_isIn_L7 h q y2 n y3 = some w → zc_W g h H locs → lv_has ls 4 [(0, va_rf ((some q))), (2, .int (y2)), (3, .int (y3))] → (∀ (H : Heap) (locs : List Loc) (ls : Array Slot), zc_W g h H locs → lv_has ls 4 [(2, .int (y2)), (3, .int (w))] → W p l e zr_X10_isIn s m [va_rf ((some q)), .int (x1), .int (x2)].toArray below meth c H locs 0 0 (zc_Q g below zr_X10_isIn (some (.int (res))) h [va_rf ((some q)), .int (x1), .int (x2)] s) (F0 m 27 ls [])) → W p l e zr_X10_isIn s m [va_rf ((some q)), .int (x1), .int (x2)].toArray below meth c H locs 0 0 (zc_Q g below zr_X10_isIn (some (.int (res))) h [va_rf ((some q)), .int (x1), .int (x2)] s) (F0 m 7 ls []) := by
    intro h y2 n
    induction n with
    | zero =>
      intro y3 w H locs ls hf
      cases hf
    | succ n ih =>
      intro y3 w H locs ls hf hw hl  kk
      unfold zf_X10_isIn_L7 at hf
      refine lv_iload_n hx hb zd_X10_isIn_7 rfl (lv_at hl 2 rfl) ?_
      refine lv_iconst (v := (-1)) hx hb zd_X10_isIn_8 (by decide) ?_
      refine lv_icmp_eq (tgt := 27) hx hb zd_X10_isIn_9 (by decide) (fun c2 => ?_) (fun c2 => ?_)
      · replace hf := zo_t c2 hf
        have hres := Option.some.inj hf; subst hres
        exact kk _ _ _ hw (lv_sub hl [1, 2] rfl)
      · replace hf := zo_f c2 hf
        refine lv_iload_n hx hb zd_X10_isIn_12 rfl (lv_at hl 2 rfl) ?_
        refine lv_iload_n hx hb zd_X10_isIn_13 rfl (lv_at hl 1 rfl) ?_
        refine lv_icmp_eq (tgt := 27) hx hb zd_X10_isIn_14 (by decide) (fun c3 => ?_) (fun c3 => ?_)
        · replace hf := zo_t c3 hf
          have hres := Option.some.inj hf; subst hres
          exact kk _ _ _ hw (lv_sub hl [1, 2] rfl)
        · replace hf := zo_f c3 hf
          refine zl_aload_n hx hb zd_X10_isIn_17 rfl (lv_at hl 0 rfl) ?_
          refine lv_iconst (v := 5) hx hb zd_X10_isIn_18 (by decide) ?_
          refine lv_iload_n hx hb zd_X10_isIn_19 rfl (lv_at hl 2 rfl) ?_
          replace hf := zo_b hf; obtain ⟨r4, er4, hf⟩ := hf
          refine zw_callV (n := 2) (ci := 10) (q := zc_cl[10]) (As := [.int (5), .int (y3)]) (rest := []) S hK hw (zt_X10_of l g h q 5 y3 _ er4) zm_1259 zm_1261 zm_28 zq_X10_of zm_79 (by decide +kernel) ⟨Nat.le_of_ble_eq_true rfl, Nat.le_of_ble_eq_true rfl⟩ rfl rfl rfl (zi_X10_of er4) hl.1 rfl (by simp [zv_cat, zv_ci, zv_cj]) zd_X10_isIn_20 ⟨(Nat.le_refl 0), (Nat.le_refl 0)⟩ (fun H locs hw => ?_)
          replace hw : zc_W g h H locs := hw
          refine lv_istore_n (i := 3) (lv' := [(3, .int (r4)), (0, va_rf ((some q))), (2, .int (y2))]) hx hb zd_X10_isIn_23 rfl hl (by decide) rfl (fun ls hl => ?_)
          refine lv_goto (tgt := 7) hx hb zd_X10_isIn_24 (by decide) ?_
          exact ih r4 _ _ _ _ hf hw (lv_sub hl [1, 2, 0] rfl) kk
  unfold zf_X10_isIn at hf
  obtain ⟨-, hf⟩ := zo_n hf
  refine zl_aload_n hx hb zd_X10_isIn_0 rfl (lv_at hl 0 rfl) ?_
  refine lv_iconst (v := 5) hx hb zd_X10_isIn_1 (by decide) ?_
  refine lv_iload_n hx hb zd_X10_isIn_2 rfl (lv_at hl 1 rfl) ?_
  replace hf := zo_b hf; obtain ⟨r1, er1, hf⟩ := hf
  refine zw_callV (n := 2) (ci := 10) (q := zc_cl[10]) (As := [.int (5), .int (x1)]) (rest := []) S hK hw (zt_X10_of l g h q 5 x1 _ er1) zm_1259 zm_1261 zm_28 zq_X10_of zm_79 (by decide +kernel) ⟨Nat.le_of_ble_eq_true rfl, Nat.le_of_ble_eq_true rfl⟩ rfl rfl rfl (zi_X10_of er1) hl.1 rfl (by simp [zv_cat, zv_ci, zv_cj]) zd_X10_isIn_3 ⟨(Nat.le_refl 0), (Nat.le_refl 0)⟩ (fun H locs hw => ?_)
  replace hw : zc_W g h H locs := hw
  refine lv_istore_n (i := 3) (lv' := [(3, .int (r1)), (0, va_rf ((some q))), (1, .int (x1)), (2, .int (x2))]) hx hb zd_X10_isIn_6 rfl hl (by decide) rfl (fun ls hl => ?_)
  replace hf := zo_b hf; obtain ⟨w5, w5e, hf⟩ := hf
  refine L7 h x2 2000 r1 _ _ _ _ w5e hw (lv_sub hl [1, 3, 0] rfl) (fun H locs ls hw hl => ?_)
  refine lv_iload_n hx hb zd_X10_isIn_27 rfl (lv_at hl 1 rfl) ?_
  refine lv_iload_n hx hb zd_X10_isIn_28 rfl (lv_at hl 0 rfl) ?_
  refine lv_icmp_ne (tgt := 36) hx hb zd_X10_isIn_29 (by decide) (fun c6 => ?_) (fun c6 => ?_)
  · replace hf := zo_f c6 hf
    refine lv_iconst (v := 0) hx hb zd_X10_isIn_36 (by decide) ?_
    have hres := Option.some.inj hf; subst hres
    exact zw_iret (v := 0) (ty := .boolean) hx hb hr hlk rfl hw zd_X10_isIn_37 (Nat.le_refl 0) (Nat.le_refl 0)
  · replace hf := zo_t c6 hf
    refine lv_iconst (v := 1) hx hb zd_X10_isIn_32 (by decide) ?_
    refine lv_goto (tgt := 37) hx hb zd_X10_isIn_33 (by decide) ?_
    have hres := Option.some.inj hf; subst hres
    exact zw_iret (v := 1) (ty := .boolean) hx hb hr hlk rfl hw zd_X10_isIn_37 (Nat.le_refl 0) (Nat.le_refl 0)
def zf_X10_thread_L4 (h : zc_H) (q : Nat) (y1 : Int32) : Nat → Int32 → Int32 → Option (Int32)
  | 0, _, _ => none
  | n + 1, y2, y3 =>
    (zf_gi h q 10 5).bind fun v1 =>
    if v1 ≤ y3 then
      some y2
    else
    (zf_X10_isIn h q y3 y1).bind fun r4 =>
    let k24 := fun (y24_2 : Int32) =>
      zf_X10_thread_L4 h q y1 n y24_2 (y3 + 1)
    if r4 = 0 then
      k24 y2
    else
    k24 (y2 + 1)
def zf_X10_thread (h : zc_H) (q : Nat) (x1 : Int32) : Option (Int32) :=
  if ¬ zf_is h q 10 = true then none else
  (zf_X10_thread_L4 h q x1 2000 0 0).bind fun w6 =>
  some w6
abbrev zr_X10_thread : Room := { frames := 2, cells := 0, slots := 0, locals := 45 }
theorem zi_X10_thread {h : zc_H} {q : Nat} {x1 : Int32} {res : Int32} (hf : zf_X10_thread h q x1 = some res) : zf_is h q 10 = true := Decidable.not_not.mp (zo_n hf).1
set_option maxHeartbeats 4000000 in
set_option maxRecDepth 20000 in
theorem zt_X10_thread (l : Launch) (g : zc_G) (h : zc_H) (q : Nat) (x1 : Int32) (res : Int32) (hf : zf_X10_thread h q x1 = some res) : zc_M l g yX10_thread cX10_thread 4 (some .int) zr_X10_thread h [va_rf ((some q)), .int (x1)] h (some (.int (res))) := by
  refine zc_M.of (by decide) (by simp [lg_sl, zv_cat, zv_ci, zv_cj]) ?_
  intro p e s m below meth c ls S hK hw hr hlk hnm hl
  replace S : CallFix p m c cX10_thread 4 s [va_rf ((some q)), .int (x1)].toArray (zc_ws yX10_thread cX10_thread 4 (some .int)) RX10 := S
  have hx := S.1
  have hb := S.2.1
  replace hl : lv_has ls 4 [(0, va_rf ((some q))), (1, .int (x1))] := by simpa [lv_args, zv_cat, zv_ci, zv_cj] using hl
  generalize s.heap = H at hw ⊢
  obtain ⟨locs, hlocs⟩ : ∃ L : List Loc, L = [] := ⟨_, rfl⟩
  rw [← hlocs] at hw ⊢
  have L4 : ∀ (h : zc_H) (y1 : Int32) (n : Nat) (y2 : Int32) (y3 : Int32) (w : Int32) (H : Heap) (locs : List Loc) (ls : Array Slot), zf_X10_thread_L4 h q y1 n y2 y3 = some w → zc_W g h H locs → lv_has ls 4 [(0, va_rf ((some q))), (1, .int (y1)), (2, .int (y2)), (3, .int (y3))] → (∀ (H : Heap) (locs : List Loc) (ls : Array Slot), zc_W g h H locs → lv_has ls 4 [(2, .int (w))] → W p l e zr_X10_thread s m [va_rf ((some q)), .int (x1)].toArray below meth c H locs 0 0 (zc_Q g below zr_X10_thread (some (.int (res))) h [va_rf ((some q)), .int (x1)] s) (F0 m 30 ls [])) → W p l e zr_X10_thread s m [va_rf ((some q)), .int (x1)].toArray below meth c H locs 0 0 (zc_Q g below zr_X10_thread (some (.int (res))) h [va_rf ((some q)), .int (x1)] s) (F0 m 4 ls []) := by
    intro h y1 n
    induction n with
    | zero =>
      intro y2 y3 w H locs ls hf
      cases hf
    | succ n ih =>
      intro y2 y3 w H locs ls hf hw hl  kk
      unfold zf_X10_thread_L4 at hf
      refine lv_iload_n hx hb zd_X10_thread_4 rfl (lv_at hl 3 rfl) ?_
      refine zl_aload_n hx hb zd_X10_thread_5 rfl (lv_at hl 0 rfl) ?_
      replace hf := zo_b hf; obtain ⟨v1, ev1, hf⟩ := hf
      obtain ⟨u2, u2e, u2v⟩ := zo_b ev1
      obtain rfl := zv_i_e u2v
      refine zw_get S hK hw zk_10 (k := 5) (by decide) rfl zm_1093 (Or.inl rfl) u2e zd_X10_thread_6 ?_
      refine lv_icmp_ge (tgt := 30) hx hb zd_X10_thread_9 (by decide) (fun c3 => ?_) (fun c3 => ?_)
      · replace hf := zo_t c3 hf
        have hres := Option.some.inj hf; subst hres
        exact kk _ _ _ hw (lv_sub hl [2] rfl)
      · replace hf := zo_f c3 hf
        refine zl_aload_n hx hb zd_X10_thread_12 rfl (lv_at hl 0 rfl) ?_
        refine lv_iload_n hx hb zd_X10_thread_13 rfl (lv_at hl 3 rfl) ?_
        refine lv_iload_n hx hb zd_X10_thread_14 rfl (lv_at hl 1 rfl) ?_
        replace hf := zo_b hf; obtain ⟨r4, er4, hf⟩ := hf
        refine zw_callV (n := 2) (ci := 10) (q := zc_cl[10]) (As := [.int (y3), .int (y1)]) (rest := []) S hK hw (zt_X10_isIn l g h q y3 y1 _ er4) zm_1387 zm_1389 zm_46 zq_X10_isIn zm_79 (by decide +kernel) ⟨Nat.le_of_ble_eq_true rfl, Nat.le_of_ble_eq_true rfl⟩ rfl rfl rfl (zi_X10_isIn er4) hl.1 rfl (by simp [zv_cat, zv_ci, zv_cj]) zd_X10_thread_15 ⟨(Nat.le_refl 0), (Nat.le_refl 0)⟩ (fun H locs hw => ?_)
        replace hw : zc_W g h H locs := hw
        have k24h : ∀ (y24_2 : Int32) (H : Heap) (locs : List Loc) (ls : Array Slot), (
            zf_X10_thread_L4 h q y1 n y24_2 (y3 + 1)
            ) = some w → zc_W g h H locs → lv_has ls 4 [(0, va_rf ((some q))), (1, .int (y1)), (2, .int (y24_2)), (3, .int (y3))] → W p l e zr_X10_thread s m [va_rf ((some q)), .int (x1)].toArray below meth c H locs (0 + 0) (0 + 0) (zc_Q g below zr_X10_thread (some (.int (res))) h [va_rf ((some q)), .int (x1)] s) (F0 m 24 ls []) := by
          intro y24_2 H locs ls hf hw hl
          refine lv_iinc (i := 3) (v := (y3 + 1)) (lv' := [(3, .int ((y3 + 1))), (0, va_rf ((some q))), (1, .int (y1)), (2, .int (y24_2))]) hx hb zd_X10_thread_24 hl (k := 3) rfl (congrArg (_ + ·) (by decide)) (by decide) rfl (fun ls hl => ?_)
          refine lv_goto (tgt := 4) hx hb zd_X10_thread_27 (by decide) ?_
          exact ih y24_2 (y3 + 1) _ _ _ _ hf hw (lv_sub hl [1, 2, 3, 0] rfl) kk
        refine lv_if_eq (tgt := 24) hx hb zd_X10_thread_18 (by decide) (fun c5 => ?_) (fun c5 => ?_)
        · replace hf := zo_t c5 hf
          exact k24h y2 _ _ _ hf hw (lv_sub hl [0, 1, 2, 3] rfl)
        · replace hf := zo_f c5 hf
          refine lv_iinc (i := 2) (v := (y2 + 1)) (lv' := [(2, .int ((y2 + 1))), (0, va_rf ((some q))), (1, .int (y1)), (3, .int (y3))]) hx hb zd_X10_thread_21 hl (k := 2) rfl (congrArg (_ + ·) (by decide)) (by decide) rfl (fun ls hl => ?_)
          exact k24h (y2 + 1) _ _ _ hf hw (lv_sub hl [1, 2, 0, 3] rfl)
  unfold zf_X10_thread at hf
  obtain ⟨-, hf⟩ := zo_n hf
  refine lv_iconst (v := 0) hx hb zd_X10_thread_0 (by decide) ?_
  refine lv_istore_n (i := 2) (lv' := [(2, .int (0)), (0, va_rf ((some q))), (1, .int (x1))]) hx hb zd_X10_thread_1 rfl hl (by decide) rfl (fun ls hl => ?_)
  refine lv_iconst (v := 0) hx hb zd_X10_thread_2 (by decide) ?_
  refine lv_istore_n (i := 3) (lv' := [(3, .int (0)), (2, .int (0)), (0, va_rf ((some q))), (1, .int (x1))]) hx hb zd_X10_thread_3 rfl hl (by decide) rfl (fun ls hl => ?_)
  replace hf := zo_b hf; obtain ⟨w6, w6e, hf⟩ := hf
  refine L4 h x1 2000 0 0 _ _ _ _ w6e hw (lv_sub hl [2, 3, 1, 0] rfl) (fun H locs ls hw hl => ?_)
  refine lv_iload_n hx hb zd_X10_thread_30 rfl (lv_at hl 0 rfl) ?_
  have hres := Option.some.inj hf; subst hres
  exact zw_iret (v := w6) (ty := .int) hx hb hr hlk rfl hw zd_X10_thread_31 (Nat.le_refl 0) (Nat.le_refl 0)
def zf_X10_isOpen_L2 (h : zc_H) (q : Nat) (y1 : Int32) : Nat → Int32 → Option ((Unit) ⊕ (Unit))
  | 0, _ => none
  | n + 1, y2 =>
    (zf_gi h q 10 5).bind fun v1 =>
    if v1 ≤ y2 then
      some (.inl ())
    else
    let k36 := fun (_ : Unit) =>
      zf_X10_isOpen_L2 h q y1 n (y2 + 1)
    let k24 := fun (_ : Unit) =>
      (zf_X10_of h q 6 y2).bind fun r5 =>
      if r5 = 0 then
        some (.inr ())
      else
      k36 ()
    if y2 = y1 then
      k24 ()
    else
    (zf_X10_isIn h q y2 y1).bind fun r7 =>
    if r7 = 0 then
      k36 ()
    else
    k24 ()
def zf_X10_isOpen (h : zc_H) (q : Nat) (x1 : Int32) : Option (Int32) :=
  if ¬ zf_is h q 10 = true then none else
  (zf_X10_isOpen_L2 h q x1 2000 0).bind fun w9 =>
  Sum.elim (fun t10 =>
    some 0
    ) (fun t11 =>
    some 1
    ) w9
abbrev zr_X10_isOpen : Room := { frames := 2, cells := 0, slots := 0, locals := 45 }
theorem zi_X10_isOpen {h : zc_H} {q : Nat} {x1 : Int32} {res : Int32} (hf : zf_X10_isOpen h q x1 = some res) : zf_is h q 10 = true := Decidable.not_not.mp (zo_n hf).1
set_option maxHeartbeats 4000000 in
set_option maxRecDepth 20000 in
theorem zt_X10_isOpen (l : Launch) (g : zc_G) (h : zc_H) (q : Nat) (x1 : Int32) (res : Int32) (hf : zf_X10_isOpen h q x1 = some res) : zc_M l g yX10_isOpen cX10_isOpen 3 (some .boolean) zr_X10_isOpen h [va_rf ((some q)), .int (x1)] h (some (.int (res))) := by
  refine zc_M.of (by decide) (by simp [lg_sl, zv_cat, zv_ci, zv_cj]) ?_
  intro p e s m below meth c ls S hK hw hr hlk hnm hl
  replace S : CallFix p m c cX10_isOpen 3 s [va_rf ((some q)), .int (x1)].toArray (zc_ws yX10_isOpen cX10_isOpen 3 (some .boolean)) RX10 := S
  have hx := S.1
  have hb := S.2.1
  replace hl : lv_has ls 3 [(0, va_rf ((some q))), (1, .int (x1))] := by simpa [lv_args, zv_cat, zv_ci, zv_cj] using hl
  generalize s.heap = H at hw ⊢
  obtain ⟨locs, hlocs⟩ : ∃ L : List Loc, L = [] := ⟨_, rfl⟩
  rw [← hlocs] at hw ⊢
  have L2 : ∀ (h : zc_H) (y1 : Int32) (n : Nat) (y2 : Int32) (w : (Unit) ⊕ (Unit)) (H : Heap) (locs : List Loc) (ls : Array Slot), zf_X10_isOpen_L2 h q y1 n y2 = some w → zc_W g h H locs → lv_has ls 3 [(0, va_rf ((some q))), (1, .int (y1)), (2, .int (y2))] → (∀ (t : Unit) (H : Heap) (locs : List Loc) (ls : Array Slot), w = (.inl t) → zc_W g h H locs → lv_has ls 3 [] → W p l e zr_X10_isOpen s m [va_rf ((some q)), .int (x1)].toArray below meth c H locs 0 0 (zc_Q g below zr_X10_isOpen (some (.int (res))) h [va_rf ((some q)), .int (x1)] s) (F0 m 42 ls [])) → (∀ (t : Unit) (H : Heap) (locs : List Loc) (ls : Array Slot), w = (.inr t) → zc_W g h H locs → lv_has ls 3 [] → W p l e zr_X10_isOpen s m [va_rf ((some q)), .int (x1)].toArray below meth c H locs 0 0 (zc_Q g below zr_X10_isOpen (some (.int (res))) h [va_rf ((some q)), .int (x1)] s) (F0 m 34 ls [])) → W p l e zr_X10_isOpen s m [va_rf ((some q)), .int (x1)].toArray below meth c H locs 0 0 (zc_Q g below zr_X10_isOpen (some (.int (res))) h [va_rf ((some q)), .int (x1)] s) (F0 m 2 ls []) := by
    intro h y1 n
    induction n with
    | zero =>
      intro y2 w H locs ls hf
      cases hf
    | succ n ih =>
      intro y2 w H locs ls hf hw hl  kk1 kk2
      unfold zf_X10_isOpen_L2 at hf
      refine lv_iload_n hx hb zd_X10_isOpen_2 rfl (lv_at hl 2 rfl) ?_
      refine zl_aload_n hx hb zd_X10_isOpen_3 rfl (lv_at hl 0 rfl) ?_
      replace hf := zo_b hf; obtain ⟨v1, ev1, hf⟩ := hf
      obtain ⟨u2, u2e, u2v⟩ := zo_b ev1
      obtain rfl := zv_i_e u2v
      refine zw_get S hK hw zk_10 (k := 5) (by decide) rfl zm_1093 (Or.inl rfl) u2e zd_X10_isOpen_4 ?_
      refine lv_icmp_ge (tgt := 42) hx hb zd_X10_isOpen_7 (by decide) (fun c3 => ?_) (fun c3 => ?_)
      · replace hf := zo_t c3 hf
        have hres := Option.some.inj hf; subst hres
        exact kk1 _ _ _ _ rfl hw (lv_sub hl [] rfl)
      · replace hf := zo_f c3 hf
        refine lv_iload_n hx hb zd_X10_isOpen_10 rfl (lv_at hl 2 rfl) ?_
        refine lv_iload_n hx hb zd_X10_isOpen_11 rfl (lv_at hl 1 rfl) ?_
        have k36h : ∀ (_ : Unit) (H : Heap) (locs : List Loc) (ls : Array Slot), (
            zf_X10_isOpen_L2 h q y1 n (y2 + 1)
            ) = some w → zc_W g h H locs → lv_has ls 3 [(0, va_rf ((some q))), (1, .int (y1)), (2, .int (y2))] → W p l e zr_X10_isOpen s m [va_rf ((some q)), .int (x1)].toArray below meth c H locs 0 0 (zc_Q g below zr_X10_isOpen (some (.int (res))) h [va_rf ((some q)), .int (x1)] s) (F0 m 36 ls []) := by
          intro _ H locs ls hf hw hl
          refine lv_iinc (i := 2) (v := (y2 + 1)) (lv' := [(2, .int ((y2 + 1))), (0, va_rf ((some q))), (1, .int (y1))]) hx hb zd_X10_isOpen_36 hl (k := 2) rfl (congrArg (_ + ·) (by decide)) (by decide) rfl (fun ls hl => ?_)
          refine lv_goto (tgt := 2) hx hb zd_X10_isOpen_39 (by decide) ?_
          exact ih (y2 + 1) _ _ _ _ hf hw (lv_sub hl [1, 2, 0] rfl) kk1 kk2
        have k24h : ∀ (_ : Unit) (H : Heap) (locs : List Loc) (ls : Array Slot), (
            let k36 := fun (_ : Unit) =>
              zf_X10_isOpen_L2 h q y1 n (y2 + 1)
            (zf_X10_of h q 6 y2).bind fun r5 =>
            if r5 = 0 then
              some (.inr ())
            else
            k36 ()
            ) = some w → zc_W g h H locs → lv_has ls 3 [(0, va_rf ((some q))), (1, .int (y1)), (2, .int (y2))] → W p l e zr_X10_isOpen s m [va_rf ((some q)), .int (x1)].toArray below meth c H locs 0 0 (zc_Q g below zr_X10_isOpen (some (.int (res))) h [va_rf ((some q)), .int (x1)] s) (F0 m 24 ls []) := by
          intro _ H locs ls hf hw hl
          refine zl_aload_n hx hb zd_X10_isOpen_24 rfl (lv_at hl 0 rfl) ?_
          refine lv_bipush (v := 6) hx hb zd_X10_isOpen_25 (by decide) ?_
          refine lv_iload_n hx hb zd_X10_isOpen_27 rfl (lv_at hl 2 rfl) ?_
          replace hf := zo_b hf; obtain ⟨r5, er5, hf⟩ := hf
          refine zw_callV (n := 2) (ci := 10) (q := zc_cl[10]) (As := [.int (6), .int (y2)]) (rest := []) S hK hw (zt_X10_of l g h q 6 y2 _ er5) zm_1259 zm_1261 zm_28 zq_X10_of zm_79 (by decide +kernel) ⟨Nat.le_of_ble_eq_true rfl, Nat.le_of_ble_eq_true rfl⟩ rfl rfl rfl (zi_X10_of er5) hl.1 rfl (by simp [zv_cat, zv_ci, zv_cj]) zd_X10_isOpen_28 ⟨(Nat.le_refl 0), (Nat.le_refl 0)⟩ (fun H locs hw => ?_)
          replace hw : zc_W g h H locs := hw
          refine lv_if_ne (tgt := 36) hx hb zd_X10_isOpen_31 (by decide) (fun c6 => ?_) (fun c6 => ?_)
          · replace hf := zo_f c6 hf
            exact k36h () _ _ _ hf hw (lv_sub hl [0, 1, 2] rfl)
          · replace hf := zo_t c6 hf
            have hres := Option.some.inj hf; subst hres
            exact kk2 _ _ _ _ rfl hw (lv_sub hl [] rfl)
        refine lv_icmp_eq (tgt := 24) hx hb zd_X10_isOpen_12 (by decide) (fun c4 => ?_) (fun c4 => ?_)
        · replace hf := zo_t c4 hf
          exact k24h () _ _ _ hf hw (lv_sub hl [0, 1, 2] rfl)
        · replace hf := zo_f c4 hf
          refine zl_aload_n hx hb zd_X10_isOpen_15 rfl (lv_at hl 0 rfl) ?_
          refine lv_iload_n hx hb zd_X10_isOpen_16 rfl (lv_at hl 2 rfl) ?_
          refine lv_iload_n hx hb zd_X10_isOpen_17 rfl (lv_at hl 1 rfl) ?_
          replace hf := zo_b hf; obtain ⟨r7, er7, hf⟩ := hf
          refine zw_callV (n := 2) (ci := 10) (q := zc_cl[10]) (As := [.int (y2), .int (y1)]) (rest := []) S hK hw (zt_X10_isIn l g h q y2 y1 _ er7) zm_1387 zm_1389 zm_46 zq_X10_isIn zm_79 (by decide +kernel) ⟨Nat.le_of_ble_eq_true rfl, Nat.le_of_ble_eq_true rfl⟩ rfl rfl rfl (zi_X10_isIn er7) hl.1 rfl (by simp [zv_cat, zv_ci, zv_cj]) zd_X10_isOpen_18 ⟨(Nat.le_refl 0), (Nat.le_refl 0)⟩ (fun H locs hw => ?_)
          replace hw : zc_W g h H locs := hw
          refine lv_if_eq (tgt := 36) hx hb zd_X10_isOpen_21 (by decide) (fun c8 => ?_) (fun c8 => ?_)
          · replace hf := zo_t c8 hf
            exact k36h () _ _ _ hf hw (lv_sub hl [0, 1, 2] rfl)
          · replace hf := zo_f c8 hf
            exact k24h () _ _ _ hf hw (lv_sub hl [0, 1, 2] rfl)
  unfold zf_X10_isOpen at hf
  obtain ⟨-, hf⟩ := zo_n hf
  refine lv_iconst (v := 0) hx hb zd_X10_isOpen_0 (by decide) ?_
  refine lv_istore_n (i := 2) (lv' := [(2, .int (0)), (0, va_rf ((some q))), (1, .int (x1))]) hx hb zd_X10_isOpen_1 rfl hl (by decide) rfl (fun ls hl => ?_)
  replace hf := zo_b hf; obtain ⟨w9, w9e, hf⟩ := hf
  refine L2 h x1 2000 0 _ _ _ _ w9e hw (lv_sub hl [1, 2, 0] rfl) ?_ ?_
  · intro t10 H locs ls exw9 hw hl
    rw [exw9] at hf
    simp only [Sum.elim_inl, Sum.elim_inr] at hf
    refine lv_iconst (v := 0) hx hb zd_X10_isOpen_42 (by decide) ?_
    have hres := Option.some.inj hf; subst hres
    exact zw_iret (v := 0) (ty := .boolean) hx hb hr hlk rfl hw zd_X10_isOpen_43 (Nat.le_refl 0) (Nat.le_refl 0)
  · intro t11 H locs ls exw9 hw hl
    rw [exw9] at hf
    simp only [Sum.elim_inl, Sum.elim_inr] at hf
    refine lv_iconst (v := 1) hx hb zd_X10_isOpen_34 (by decide) ?_
    have hres := Option.some.inj hf; subst hres
    exact zw_iret (v := 1) (ty := .boolean) hx hb hr hlk rfl hw zd_X10_isOpen_35 (Nat.le_refl 0) (Nat.le_refl 0)
def zf_X10_remarkOf (h : zc_H) (q : Nat) (x1 : Int32) (x2 : Int32) : Option (zc_H × Int32) :=
  if ¬ zf_is h q 10 = true then none else
  (zf_X10_isRemark h q x1).bind fun r1 =>
  if r1 = 0 then
    (zf_X10_no h q (-5)).bind fun r14 =>
    some (r14.1, r14.2)
  else
  (zf_X10_within h x2 0 6).bind fun r3 =>
  if r3 = 0 then
    if x2 = 7 then
      (zf_X10_depth h q x1).bind fun r6 =>
      some (h, r6)
    else
    if x2 = 8 then
      (zf_X10_thread h q x1).bind fun r8 =>
      some (h, r8)
    else
    if x2 = 9 then
      (zf_X10_isOpen h q x1).bind fun r10 =>
      if r10 = 0 then
        some (h, 0)
      else
      some (h, 1)
    else
    (zf_X10_no h q (-5)).bind fun r12 =>
    some (r12.1, r12.2)
  else
  (zf_X10_of h q x2 x1).bind fun r13 =>
  some (h, r13)
abbrev zr_X10_remarkOf : Room := { frames := 3, cells := 0, slots := 0, locals := 68 }
theorem zi_X10_remarkOf {h : zc_H} {q : Nat} {x1 : Int32} {x2 : Int32} {res : zc_H × Int32} (hf : zf_X10_remarkOf h q x1 x2 = some res) : zf_is h q 10 = true := Decidable.not_not.mp (zo_n hf).1
set_option maxHeartbeats 4000000 in
set_option maxRecDepth 20000 in
theorem zt_X10_remarkOf (l : Launch) (g : zc_G) (h : zc_H) (q : Nat) (x1 : Int32) (x2 : Int32) (res : zc_H × Int32) (hf : zf_X10_remarkOf h q x1 x2 = some res) : zc_M l g yX10_remarkOf cX10_remarkOf 3 (some .int) zr_X10_remarkOf h [va_rf ((some q)), .int (x1), .int (x2)] res.1 (some (.int (res.2))) := by
  refine zc_M.of (by decide) (by simp [lg_sl, zv_cat, zv_ci, zv_cj]) ?_
  intro p e s m below meth c ls S hK hw hr hlk hnm hl
  replace S : CallFix p m c cX10_remarkOf 3 s [va_rf ((some q)), .int (x1), .int (x2)].toArray (zc_ws yX10_remarkOf cX10_remarkOf 3 (some .int)) RX10 := S
  have hx := S.1
  have hb := S.2.1
  replace hl : lv_has ls 3 [(0, va_rf ((some q))), (1, .int (x1)), (2, .int (x2))] := by simpa [lv_args, zv_cat, zv_ci, zv_cj] using hl
  generalize s.heap = H at hw ⊢
  obtain ⟨locs, hlocs⟩ : ∃ L : List Loc, L = [] := ⟨_, rfl⟩
  rw [← hlocs] at hw ⊢
  unfold zf_X10_remarkOf at hf
  obtain ⟨-, hf⟩ := zo_n hf
  refine zl_aload_n hx hb zd_X10_remarkOf_0 rfl (lv_at hl 0 rfl) ?_
  refine lv_iload_n hx hb zd_X10_remarkOf_1 rfl (lv_at hl 1 rfl) ?_
  replace hf := zo_b hf; obtain ⟨r1, er1, hf⟩ := hf
  refine zw_callV (n := 1) (ci := 10) (q := zc_cl[10]) (As := [.int (x1)]) (rest := []) S hK hw (zt_X10_isRemark l g h q x1 _ er1) zm_1247 zm_1249 zm_27 zq_X10_isRemark zm_79 (by decide +kernel) ⟨Nat.le_of_ble_eq_true rfl, Nat.le_of_ble_eq_true rfl⟩ rfl rfl rfl (zi_X10_isRemark er1) hl.1 rfl (by simp [zv_cat, zv_ci, zv_cj]) zd_X10_remarkOf_2 ⟨(Nat.le_refl 0), (Nat.le_refl 0)⟩ (fun H locs hw => ?_)
  replace hw : zc_W g h H locs := hw
  refine lv_if_ne (tgt := 15) hx hb zd_X10_remarkOf_5 (by decide) (fun c2 => ?_) (fun c2 => ?_)
  · replace hf := zo_f c2 hf
    refine lv_iload_n hx hb zd_X10_remarkOf_15 rfl (lv_at hl 2 rfl) ?_
    refine lv_iconst (v := 0) hx hb zd_X10_remarkOf_16 (by decide) ?_
    refine lv_bipush (v := 6) hx hb zd_X10_remarkOf_17 (by decide) ?_
    replace hf := zo_b hf; obtain ⟨r3, er3, hf⟩ := hf
    refine zw_callS (n := 3) (As := [.int (x2), .int (0), .int (6)]) (rest := []) S hK hw (zt_X10_within l g h x2 0 6 _ er3) zm_1216 zm_1217 zq_X10_within zm_79 (by decide +kernel) ⟨Nat.le_of_ble_eq_true rfl, Nat.le_of_ble_eq_true rfl⟩ rfl hl.1 rfl (by simp [zv_cat, zv_ci, zv_cj]) zd_X10_remarkOf_19 ⟨(Nat.le_refl 0), (Nat.le_refl 0)⟩ (fun H locs hw => ?_)
    replace hw : zc_W g h H locs := hw
    refine lv_if_eq (tgt := 32) hx hb zd_X10_remarkOf_22 (by decide) (fun c4 => ?_) (fun c4 => ?_)
    · replace hf := zo_t c4 hf
      refine lv_iload_n hx hb zd_X10_remarkOf_32 rfl (lv_at hl 2 rfl) ?_
      by_cases c5 : x2 = 7
      · replace hf := zo_t c5 hf
        refine W.eq (g2 := F0 m 33 ls (.int 7 :: [])) (by rw [c5] <;> rfl) ?_
        refine lv_tableIn (off := 27) (tgt := 60) hx hb zd_X10_remarkOf_33 (by decide) (by decide) (by decide) (by decide) ?_
        refine zl_aload_n hx hb zd_X10_remarkOf_60 rfl (lv_at hl 0 rfl) ?_
        refine lv_iload_n hx hb zd_X10_remarkOf_61 rfl (lv_at hl 1 rfl) ?_
        replace hf := zo_b hf; obtain ⟨r6, er6, hf⟩ := hf
        refine zw_callV (n := 1) (ci := 10) (q := zc_cl[10]) (As := [.int (x1)]) (rest := []) S hK hw (zt_X10_depth l g h q x1 _ er6) zm_1379 zm_1381 zm_44 zq_X10_depth zm_79 (by decide +kernel) ⟨Nat.le_of_ble_eq_true rfl, Nat.le_of_ble_eq_true rfl⟩ rfl rfl rfl (zi_X10_depth er6) hl.1 rfl (by simp [zv_cat, zv_ci, zv_cj]) zd_X10_remarkOf_62 ⟨(Nat.le_refl 0), (Nat.le_refl 0)⟩ (fun H locs hw => ?_)
        replace hw : zc_W g h H locs := hw
        have hres := Option.some.inj hf; subst hres
        exact zw_iret (v := r6) (ty := .int) hx hb hr hlk rfl hw zd_X10_remarkOf_65 (Nat.le_refl 0) (Nat.le_refl 0)
      replace hf := zo_f c5 hf
      by_cases c7 : x2 = 8
      · replace hf := zo_t c7 hf
        refine W.eq (g2 := F0 m 33 ls (.int 8 :: [])) (by rw [c7] <;> rfl) ?_
        refine lv_tableIn (off := 33) (tgt := 66) hx hb zd_X10_remarkOf_33 (by decide) (by decide) (by decide) (by decide) ?_
        refine zl_aload_n hx hb zd_X10_remarkOf_66 rfl (lv_at hl 0 rfl) ?_
        refine lv_iload_n hx hb zd_X10_remarkOf_67 rfl (lv_at hl 1 rfl) ?_
        replace hf := zo_b hf; obtain ⟨r8, er8, hf⟩ := hf
        refine zw_callV (n := 1) (ci := 10) (q := zc_cl[10]) (As := [.int (x1)]) (rest := []) S hK hw (zt_X10_thread l g h q x1 _ er8) zm_1383 zm_1385 zm_45 zq_X10_thread zm_79 (by decide +kernel) ⟨Nat.le_of_ble_eq_true rfl, Nat.le_of_ble_eq_true rfl⟩ rfl rfl rfl (zi_X10_thread er8) hl.1 rfl (by simp [zv_cat, zv_ci, zv_cj]) zd_X10_remarkOf_68 ⟨(Nat.le_refl 0), (Nat.le_refl 0)⟩ (fun H locs hw => ?_)
        replace hw : zc_W g h H locs := hw
        have hres := Option.some.inj hf; subst hres
        exact zw_iret (v := r8) (ty := .int) hx hb hr hlk rfl hw zd_X10_remarkOf_71 (Nat.le_refl 0) (Nat.le_refl 0)
      replace hf := zo_f c7 hf
      by_cases c9 : x2 = 9
      · replace hf := zo_t c9 hf
        refine W.eq (g2 := F0 m 33 ls (.int 9 :: [])) (by rw [c9] <;> rfl) ?_
        refine lv_tableIn (off := 39) (tgt := 72) hx hb zd_X10_remarkOf_33 (by decide) (by decide) (by decide) (by decide) ?_
        refine zl_aload_n hx hb zd_X10_remarkOf_72 rfl (lv_at hl 0 rfl) ?_
        refine lv_iload_n hx hb zd_X10_remarkOf_73 rfl (lv_at hl 1 rfl) ?_
        replace hf := zo_b hf; obtain ⟨r10, er10, hf⟩ := hf
        refine zw_callV (n := 1) (ci := 10) (q := zc_cl[10]) (As := [.int (x1)]) (rest := []) S hK hw (zt_X10_isOpen l g h q x1 _ er10) zm_1391 zm_1393 zm_47 zq_X10_isOpen zm_79 (by decide +kernel) ⟨Nat.le_of_ble_eq_true rfl, Nat.le_of_ble_eq_true rfl⟩ rfl rfl rfl (zi_X10_isOpen er10) hl.1 rfl (by simp [zv_cat, zv_ci, zv_cj]) zd_X10_remarkOf_74 ⟨(Nat.le_refl 0), (Nat.le_refl 0)⟩ (fun H locs hw => ?_)
        replace hw : zc_W g h H locs := hw
        refine lv_if_eq (tgt := 84) hx hb zd_X10_remarkOf_77 (by decide) (fun c11 => ?_) (fun c11 => ?_)
        · replace hf := zo_t c11 hf
          refine lv_iconst (v := 0) hx hb zd_X10_remarkOf_84 (by decide) ?_
          have hres := Option.some.inj hf; subst hres
          exact zw_iret (v := 0) (ty := .int) hx hb hr hlk rfl hw zd_X10_remarkOf_85 (Nat.le_refl 0) (Nat.le_refl 0)
        · replace hf := zo_f c11 hf
          refine lv_iconst (v := 1) hx hb zd_X10_remarkOf_80 (by decide) ?_
          refine lv_goto (tgt := 85) hx hb zd_X10_remarkOf_81 (by decide) ?_
          have hres := Option.some.inj hf; subst hres
          exact zw_iret (v := 1) (ty := .int) hx hb hr hlk rfl hw zd_X10_remarkOf_85 (Nat.le_refl 0) (Nat.le_refl 0)
      replace hf := zo_f c9 hf
      have zc5 : (x2 : Int32).toInt ≠ 7 := fun h => c5 (Int32.toInt_inj.mp (h.trans (by decide)))
      have zc7 : (x2 : Int32).toInt ≠ 8 := fun h => c7 (Int32.toInt_inj.mp (h.trans (by decide)))
      have zc9 : (x2 : Int32).toInt ≠ 9 := fun h => c9 (Int32.toInt_inj.mp (h.trans (by decide)))
      refine lv_tableOut (tgt := 86) hx hb zd_X10_remarkOf_33 (by omega) (by decide) ?_
      refine zl_aload_n hx hb zd_X10_remarkOf_86 rfl (lv_at hl 0 rfl) ?_
      refine lv_bipush (v := (-5)) hx hb zd_X10_remarkOf_87 (by decide) ?_
      replace hf := zo_b hf; obtain ⟨r12, er12, hf⟩ := hf
      refine zw_callV (n := 1) (ci := 10) (q := zc_cl[10]) (As := [.int ((-5))]) (rest := []) S hK hw (zt_X10_no l g h q (-5) _ er12) zm_1219 zm_1221 zm_24 zq_X10_no zm_79 (by decide +kernel) ⟨Nat.le_of_ble_eq_true rfl, Nat.le_of_ble_eq_true rfl⟩ rfl rfl rfl (zi_X10_no er12) hl.1 rfl (by simp [zv_cat, zv_ci, zv_cj]) zd_X10_remarkOf_89 ⟨(Nat.le_refl 0), (Nat.le_refl 0)⟩ (fun H locs hw => ?_)
      replace hw : zc_W g r12.1 H locs := hw
      have hres := Option.some.inj hf; subst hres
      exact zw_iret (v := r12.2) (ty := .int) hx hb hr hlk rfl hw zd_X10_remarkOf_92 (Nat.le_refl 0) (Nat.le_refl 0)
    · replace hf := zo_f c4 hf
      refine zl_aload_n hx hb zd_X10_remarkOf_25 rfl (lv_at hl 0 rfl) ?_
      refine lv_iload_n hx hb zd_X10_remarkOf_26 rfl (lv_at hl 2 rfl) ?_
      refine lv_iload_n hx hb zd_X10_remarkOf_27 rfl (lv_at hl 1 rfl) ?_
      replace hf := zo_b hf; obtain ⟨r13, er13, hf⟩ := hf
      refine zw_callV (n := 2) (ci := 10) (q := zc_cl[10]) (As := [.int (x2), .int (x1)]) (rest := []) S hK hw (zt_X10_of l g h q x2 x1 _ er13) zm_1259 zm_1261 zm_28 zq_X10_of zm_79 (by decide +kernel) ⟨Nat.le_of_ble_eq_true rfl, Nat.le_of_ble_eq_true rfl⟩ rfl rfl rfl (zi_X10_of er13) hl.1 rfl (by simp [zv_cat, zv_ci, zv_cj]) zd_X10_remarkOf_28 ⟨(Nat.le_refl 0), (Nat.le_refl 0)⟩ (fun H locs hw => ?_)
      replace hw : zc_W g h H locs := hw
      have hres := Option.some.inj hf; subst hres
      exact zw_iret (v := r13) (ty := .int) hx hb hr hlk rfl hw zd_X10_remarkOf_31 (Nat.le_refl 0) (Nat.le_refl 0)
  · replace hf := zo_t c2 hf
    refine zl_aload_n hx hb zd_X10_remarkOf_8 rfl (lv_at hl 0 rfl) ?_
    refine lv_bipush (v := (-5)) hx hb zd_X10_remarkOf_9 (by decide) ?_
    replace hf := zo_b hf; obtain ⟨r14, er14, hf⟩ := hf
    refine zw_callV (n := 1) (ci := 10) (q := zc_cl[10]) (As := [.int ((-5))]) (rest := []) S hK hw (zt_X10_no l g h q (-5) _ er14) zm_1219 zm_1221 zm_24 zq_X10_no zm_79 (by decide +kernel) ⟨Nat.le_of_ble_eq_true rfl, Nat.le_of_ble_eq_true rfl⟩ rfl rfl rfl (zi_X10_no er14) hl.1 rfl (by simp [zv_cat, zv_ci, zv_cj]) zd_X10_remarkOf_11 ⟨(Nat.le_refl 0), (Nat.le_refl 0)⟩ (fun H locs hw => ?_)
    replace hw : zc_W g r14.1 H locs := hw
    have hres := Option.some.inj hf; subst hres
    exact zw_iret (v := r14.2) (ty := .int) hx hb hr hlk rfl hw zd_X10_remarkOf_14 (Nat.le_refl 0) (Nat.le_refl 0)
def zf_X10_settle (h : zc_H) (q : Nat) (x1 : Int32) (x2 : Int32) : Option (zc_H × Int32) :=
  if ¬ zf_is h q 10 = true then none else
  (zf_X10_isRemark h q x1).bind fun r1 =>
  if r1 = 0 then
    (zf_X10_no h q (-1)).bind fun r9 =>
    some (r9.1, r9.2)
  else
  (zf_X10_of h q 6 x1).bind fun r3 =>
  (zf_gr h q 10 6).bind fun v4 =>
  let k39 := fun (s39_0 : Int32) (s39_1 : Int32) (s39_2 : Option Nat) =>
    s39_2.bind fun a7 =>
    (zf_si h a7 0 s39_1 s39_0).bind fun h8 =>
    some (h8, r3)
  if x2 = 0 then
    k39 0 (96 + x1) v4
  else
  k39 1 (96 + x1) v4
abbrev zr_X10_settle : Room := { frames := 2, cells := 0, slots := 0, locals := 43 }
theorem zi_X10_settle {h : zc_H} {q : Nat} {x1 : Int32} {x2 : Int32} {res : zc_H × Int32} (hf : zf_X10_settle h q x1 x2 = some res) : zf_is h q 10 = true := Decidable.not_not.mp (zo_n hf).1
set_option maxHeartbeats 4000000 in
set_option maxRecDepth 20000 in
theorem zt_X10_settle (l : Launch) (g : zc_G) (h : zc_H) (q : Nat) (x1 : Int32) (x2 : Int32) (res : zc_H × Int32) (hf : zf_X10_settle h q x1 x2 = some res) : zc_M l g yX10_settle cX10_settle 4 (some .int) zr_X10_settle h [va_rf ((some q)), .int (x1), .int (x2)] res.1 (some (.int (res.2))) := by
  refine zc_M.of (by decide) (by simp [lg_sl, zv_cat, zv_ci, zv_cj]) ?_
  intro p e s m below meth c ls S hK hw hr hlk hnm hl
  replace S : CallFix p m c cX10_settle 4 s [va_rf ((some q)), .int (x1), .int (x2)].toArray (zc_ws yX10_settle cX10_settle 4 (some .int)) RX10 := S
  have hx := S.1
  have hb := S.2.1
  replace hl : lv_has ls 4 [(0, va_rf ((some q))), (1, .int (x1)), (2, .int (x2))] := by simpa [lv_args, zv_cat, zv_ci, zv_cj] using hl
  generalize s.heap = H at hw ⊢
  obtain ⟨locs, hlocs⟩ : ∃ L : List Loc, L = [] := ⟨_, rfl⟩
  rw [← hlocs] at hw ⊢
  unfold zf_X10_settle at hf
  obtain ⟨-, hf⟩ := zo_n hf
  refine zl_aload_n hx hb zd_X10_settle_0 rfl (lv_at hl 0 rfl) ?_
  refine lv_iload_n hx hb zd_X10_settle_1 rfl (lv_at hl 1 rfl) ?_
  replace hf := zo_b hf; obtain ⟨r1, er1, hf⟩ := hf
  refine zw_callV (n := 1) (ci := 10) (q := zc_cl[10]) (As := [.int (x1)]) (rest := []) S hK hw (zt_X10_isRemark l g h q x1 _ er1) zm_1247 zm_1249 zm_27 zq_X10_isRemark zm_79 (by decide +kernel) ⟨Nat.le_of_ble_eq_true rfl, Nat.le_of_ble_eq_true rfl⟩ rfl rfl rfl (zi_X10_isRemark er1) hl.1 rfl (by simp [zv_cat, zv_ci, zv_cj]) zd_X10_settle_2 ⟨(Nat.le_refl 0), (Nat.le_refl 0)⟩ (fun H locs hw => ?_)
  replace hw : zc_W g h H locs := hw
  refine lv_if_ne (tgt := 14) hx hb zd_X10_settle_5 (by decide) (fun c2 => ?_) (fun c2 => ?_)
  · replace hf := zo_f c2 hf
    refine zl_aload_n hx hb zd_X10_settle_14 rfl (lv_at hl 0 rfl) ?_
    refine lv_bipush (v := 6) hx hb zd_X10_settle_15 (by decide) ?_
    refine lv_iload_n hx hb zd_X10_settle_17 rfl (lv_at hl 1 rfl) ?_
    replace hf := zo_b hf; obtain ⟨r3, er3, hf⟩ := hf
    refine zw_callV (n := 2) (ci := 10) (q := zc_cl[10]) (As := [.int (6), .int (x1)]) (rest := []) S hK hw (zt_X10_of l g h q 6 x1 _ er3) zm_1259 zm_1261 zm_28 zq_X10_of zm_79 (by decide +kernel) ⟨Nat.le_of_ble_eq_true rfl, Nat.le_of_ble_eq_true rfl⟩ rfl rfl rfl (zi_X10_of er3) hl.1 rfl (by simp [zv_cat, zv_ci, zv_cj]) zd_X10_settle_18 ⟨(Nat.le_refl 0), (Nat.le_refl 0)⟩ (fun H locs hw => ?_)
    replace hw : zc_W g h H locs := hw
    refine lv_istore_n (i := 3) (lv' := [(3, .int (r3)), (0, va_rf ((some q))), (1, .int (x1)), (2, .int (x2))]) hx hb zd_X10_settle_21 rfl hl (by decide) rfl (fun ls hl => ?_)
    refine zl_aload_n hx hb zd_X10_settle_22 rfl (lv_at hl 1 rfl) ?_
    replace hf := zo_b hf; obtain ⟨v4, ev4, hf⟩ := hf
    obtain ⟨u5, u5e, u5v⟩ := zo_b ev4
    obtain rfl := zv_r_e u5v
    refine zw_get S hK hw zk_10 (k := 6) (by decide) rfl zm_1094 (Or.inl rfl) u5e zd_X10_settle_23 ?_
    refine lv_bipush (v := 96) hx hb zd_X10_settle_26 (by decide) ?_
    refine lv_iload_n hx hb zd_X10_settle_28 rfl (lv_at hl 2 rfl) ?_
    refine lv_iadd hx hb zd_X10_settle_29 ?_
    refine lv_iload_n hx hb zd_X10_settle_30 rfl (lv_at hl 3 rfl) ?_
    have k39h : ∀ (s39_0 : Int32) (s39_1 : Int32) (s39_2 : Option Nat) (H : Heap) (locs : List Loc) (ls : Array Slot), (
        s39_2.bind fun a7 =>
        (zf_si h a7 0 s39_1 s39_0).bind fun h8 =>
        some (h8, r3)
        ) = some res → zc_W g h H locs → lv_has ls 4 [(3, .int (r3))] → W p l e zr_X10_settle s m [va_rf ((some q)), .int (x1), .int (x2)].toArray below meth c H locs ((0 + 0) + 0) ((0 + 0) + 0) (zc_Q g below zr_X10_settle (some (.int (res.2))) res.1 [va_rf ((some q)), .int (x1), .int (x2)] s) (F0 m 39 ls [.int (s39_0), .int (s39_1), va_rf (s39_2)]) := by
      intro s39_0 s39_1 s39_2 H locs ls hf hw hl
      replace hf := zo_b hf; obtain ⟨a7, na7, hf⟩ := hf
      refine W.eq (g2 := F0 m 39 ls [.int (s39_0), .int (s39_1), va_rf ((some a7))]) (by rw [na7] <;> rfl) ?_
      replace hf := zo_b hf; obtain ⟨h8, eh8, hf⟩ := hf
      refine zw_iast S hK hw eh8 zd_X10_settle_39 (fun H locs hw => ?_)
      refine lv_iload_n hx hb zd_X10_settle_40 rfl (lv_at hl 0 rfl) ?_
      have hres := Option.some.inj hf; subst hres
      exact zw_iret (v := r3) (ty := .int) hx hb hr hlk rfl hw zd_X10_settle_41 (Nat.le_refl 0) (Nat.le_refl 0)
    refine lv_if_eq (tgt := 38) hx hb zd_X10_settle_31 (by decide) (fun c6 => ?_) (fun c6 => ?_)
    · replace hf := zo_t c6 hf
      refine lv_iconst (v := 0) hx hb zd_X10_settle_38 (by decide) ?_
      exact k39h 0 (96 + x1) v4 _ _ _ hf hw (lv_sub hl [0] rfl)
    · replace hf := zo_f c6 hf
      refine lv_iconst (v := 1) hx hb zd_X10_settle_34 (by decide) ?_
      refine lv_goto (tgt := 39) hx hb zd_X10_settle_35 (by decide) ?_
      exact k39h 1 (96 + x1) v4 _ _ _ hf hw (lv_sub hl [0] rfl)
  · replace hf := zo_t c2 hf
    refine zl_aload_n hx hb zd_X10_settle_8 rfl (lv_at hl 0 rfl) ?_
    refine lv_iconst (v := (-1)) hx hb zd_X10_settle_9 (by decide) ?_
    replace hf := zo_b hf; obtain ⟨r9, er9, hf⟩ := hf
    refine zw_callV (n := 1) (ci := 10) (q := zc_cl[10]) (As := [.int ((-1))]) (rest := []) S hK hw (zt_X10_no l g h q (-1) _ er9) zm_1219 zm_1221 zm_24 zq_X10_no zm_79 (by decide +kernel) ⟨Nat.le_of_ble_eq_true rfl, Nat.le_of_ble_eq_true rfl⟩ rfl rfl rfl (zi_X10_no er9) hl.1 rfl (by simp [zv_cat, zv_ci, zv_cj]) zd_X10_settle_10 ⟨(Nat.le_refl 0), (Nat.le_refl 0)⟩ (fun H locs hw => ?_)
    replace hw : zc_W g r9.1 H locs := hw
    have hres := Option.some.inj hf; subst hres
    exact zw_iret (v := r9.2) (ty := .int) hx hb hr hlk rfl hw zd_X10_settle_13 (Nat.le_refl 0) (Nat.le_refl 0)
