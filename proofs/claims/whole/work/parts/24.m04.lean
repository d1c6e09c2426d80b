def zf_X10_follows_L13 (h : zc_H) (q : Nat) (y1 : Int32) : Nat → Int32 → Int32 → Int32 → Int32 → Option (Int32 × Int32 × Int32)
  | 0, _, _, _, _ => none
  | n + 1, y2, y3, y4, y5 =>
    (zf_gi h q 10 32).bind fun v3 =>
    if v3 < y5 then
      some (y2, y3, y4)
    else
    (zf_gr h q 10 4).bind fun v6 =>
    v6.bind fun a8 =>
    (zf_ai h a8 0 ((24 * y1) + y5)).bind fun v9 =>
    let k72 := fun (y72_2 : Int32) (y72_3 : Int32) (y72_4 : Int32) =>
      zf_X10_follows_L13 h q y1 n y72_2 y72_3 y72_4 (y5 + 1)
    if v9 = (-1) then
      k72 y2 y3 y4
    else
    let k61 := fun (s61_0 : Int32) =>
      k72 s61_0 (if y3 < v9 then v9 else y3) (y4 + 1)
    if y4 = 0 then
      k61 v9
    else
    k61 (if v9 < y2 then v9 else y2)
def zf_X10_follows (h : zc_H) (q : Nat) (x1 : Int32) : Option (zc_H × Int32) :=
  if ¬ zf_is h q 10 = true then none else
  (zf_gi h q 10 31).bind fun v1 =>
  (zf_X10_follows_L13 h q x1 2000 (-1) (-1) 0 v1).bind fun w12 =>
  (zf_p h q 10 31 (.int (w12.1))).bind fun h13 =>
  (zf_p h13 q 10 32 (.int (w12.2.1))).bind fun h14 =>
  some (h14, w12.2.2)
abbrev zr_X10_follows : Room := { frames := 1, cells := 0, slots := 0, locals := 40 }
theorem zi_X10_follows {h : zc_H} {q : Nat} {x1 : Int32} {res : zc_H × Int32} (hf : zf_X10_follows h q x1 = some res) : zf_is h q 10 = true := Decidable.not_not.mp (zo_n hf).1
set_option maxHeartbeats 4000000 in
set_option maxRecDepth 20000 in
theorem zt_X10_follows (l : Launch) (g : zc_G) (h : zc_H) (q : Nat) (x1 : Int32) (res : zc_H × Int32) (hf : zf_X10_follows h q x1 = some res) : zc_M l g yX10_follows cX10_follows 7 (some .int) zr_X10_follows h [va_rf ((some q)), .int (x1)] res.1 (some (.int (res.2))) := by
  refine zc_M.of (by decide) (by simp [lg_sl, zv_cat, zv_ci, zv_cj]) ?_
  intro p e s m below meth c ls S hK hw hr hlk hnm hl
  replace S : CallFix p m c cX10_follows 7 s [va_rf ((some q)), .int (x1)].toArray (zc_ws yX10_follows cX10_follows 7 (some .int)) RX10 := S
  have hx := S.1
  have hb := S.2.1
  replace hl : lv_has ls 7 [(0, va_rf ((some q))), (1, .int (x1))] := by simpa [lv_args, zv_cat, zv_ci, zv_cj] using hl
  generalize s.heap = H at hw ⊢
  obtain ⟨locs, hlocs⟩ : ∃ L : List Loc, L = [] := ⟨_, rfl⟩
  rw [← hlocs] at hw ⊢
  have L13 : ∀ (h : zc_H) (y1 : Int32) (n : Nat) (y2 : Int32) (y3 : Int32) (y4 : Int32) (y5 : Int32) (w : Int32 × Int32 × Int32) (H : Heap) (locs : List Loc) (ls : Array Slot), zf_X10_follows_L13 h q y1 n y2 y3 y4 y5 = some w → zc_W g h H locs → lv_has ls 7 [(0, va_rf ((some q))), (1, .int (y1)), (2, .int (y2)), (3, .int (y3)), (4, .int (y4)), (5, .int (y5))] → (∀ (H : Heap) (locs : List Loc) (ls : Array Slot), zc_W g h H locs → lv_has ls 7 [(0, va_rf ((some q))), (2, .int (w.1)), (3, .int (w.2.1)), (4, .int (w.2.2))] → W p l e zr_X10_follows s m [va_rf ((some q)), .int (x1)].toArray below meth c H locs 0 0 (zc_Q g below zr_X10_follows (some (.int (res.2))) res.1 [va_rf ((some q)), .int (x1)] s) (F0 m 78 ls [])) → W p l e zr_X10_follows s m [va_rf ((some q)), .int (x1)].toArray below meth c H locs 0 0 (zc_Q g below zr_X10_follows (some (.int (res.2))) res.1 [va_rf ((some q)), .int (x1)] s) (F0 m 13 ls []) := by
    intro h y1 n
    induction n with
    | zero =>
      intro y2 y3 y4 y5 w H locs ls hf
      cases hf
    | succ n ih =>
      intro y2 y3 y4 y5 w H locs ls hf hw hl  kk
      unfold zf_X10_follows_L13 at hf
      refine lv_iload hx hb zd_X10_follows_13 (lv_at hl 5 rfl) ?_
      refine zl_aload_n hx hb zd_X10_follows_15 rfl (lv_at hl 0 rfl) ?_
      replace hf := zo_b hf; obtain ⟨v3, ev3, hf⟩ := hf
      obtain ⟨u4, u4e, u4v⟩ := zo_b ev3
      obtain rfl := zv_i_e u4v
      refine zw_get S hK hw zk_10 (k := 32) (by decide) rfl zm_1120 (Or.inl rfl) u4e zd_X10_follows_16 ?_
      refine lv_icmp_gt (tgt := 78) hx hb zd_X10_follows_19 (by decide) (fun c5 => ?_) (fun c5 => ?_)
      · replace hf := zo_t c5 hf
        have hres := Option.some.inj hf; subst hres
        exact kk _ _ _ hw (lv_sub hl [0, 2, 3, 4] rfl)
      · replace hf := zo_f c5 hf
        refine zl_aload_n hx hb zd_X10_follows_22 rfl (lv_at hl 0 rfl) ?_
        replace hf := zo_b hf; obtain ⟨v6, ev6, hf⟩ := hf
        obtain ⟨u7, u7e, u7v⟩ := zo_b ev6
        obtain rfl := zv_r_e u7v
        refine zw_get S hK hw zk_10 (k := 4) (by decide) rfl zm_1092 (Or.inl rfl) u7e zd_X10_follows_23 ?_
        refine lv_bipush (v := 24) hx hb zd_X10_follows_26 (by decide) ?_
        refine lv_iload_n hx hb zd_X10_follows_28 rfl (lv_at hl 1 rfl) ?_
        refine lv_imul hx hb zd_X10_follows_29 ?_
        refine lv_iload hx hb zd_X10_follows_30 (lv_at hl 5 rfl) ?_
        refine lv_iadd hx hb zd_X10_follows_32 ?_
        replace hf := zo_b hf; obtain ⟨a8, na8, hf⟩ := hf
        refine W.eq (g2 := F0 m 33 ls [.int (((24 * y1) + y5)), va_rf ((some a8))]) (by rw [na8] <;> rfl) ?_
        replace hf := zo_b hf; obtain ⟨v9, ev9, hf⟩ := hf
        refine zw_iald S hK hw ev9 zd_X10_follows_33 ?_
        refine lv_istore (i := 6) (lv' := [(6, .int (v9)), (0, va_rf ((some q))), (1, .int (y1)), (2, .int (y2)), (3, .int (y3)), (4, .int (y4)), (5, .int (y5))]) hx hb zd_X10_follows_34 hl (by decide) rfl (fun ls hl => ?_)
        refine lv_iload hx hb zd_X10_follows_36 (lv_at hl 0 rfl) ?_
        refine lv_iconst (v := (-1)) hx hb zd_X10_follows_38 (by decide) ?_
        have k72h : ∀ (y72_2 : Int32) (y72_3 : Int32) (y72_4 : Int32) (H : Heap) (locs : List Loc) (ls : Array Slot), (
            zf_X10_follows_L13 h q y1 n y72_2 y72_3 y72_4 (y5 + 1)
            ) = some w → zc_W g h H locs → lv_has ls 7 [(0, va_rf ((some q))), (1, .int (y1)), (2, .int (y72_2)), (3, .int (y72_3)), (4, .int (y72_4)), (5, .int (y5))] → W p l e zr_X10_follows s m [va_rf ((some q)), .int (x1)].toArray below meth c H locs 0 0 (zc_Q g below zr_X10_follows (some (.int (res.2))) res.1 [va_rf ((some q)), .int (x1)] s) (F0 m 72 ls []) := by
          intro y72_2 y72_3 y72_4 H locs ls hf hw hl
          refine lv_iinc (i := 5) (v := (y5 + 1)) (lv' := [(5, .int ((y5 + 1))), (0, va_rf ((some q))), (1, .int (y1)), (2, .int (y72_2)), (3, .int (y72_3)), (4, .int (y72_4))]) hx hb zd_X10_follows_72 hl (k := 5) rfl (congrArg (_ + ·) (by decide)) (by decide) rfl (fun ls hl => ?_)
          refine lv_goto (tgt := 13) hx hb zd_X10_follows_75 (by decide) ?_
          exact ih y72_2 y72_3 y72_4 (y5 + 1) _ _ _ _ hf hw (lv_sub hl [1, 2, 3, 4, 5, 0] rfl) kk
        refine lv_icmp_ne (tgt := 45) hx hb zd_X10_follows_39 (by decide) (fun c10 => ?_) (fun c10 => ?_)
        · replace hf := zo_f c10 hf
          refine lv_iload hx hb zd_X10_follows_45 (lv_at hl 5 rfl) ?_
          have k61h : ∀ (s61_0 : Int32) (H : Heap) (locs : List Loc) (ls : Array Slot), (
              let k72 := fun (y72_2 : Int32) (y72_3 : Int32) (y72_4 : Int32) =>
                zf_X10_follows_L13 h q y1 n y72_2 y72_3 y72_4 (y5 + 1)
              k72 s61_0 (if y3 < v9 then v9 else y3) (y4 + 1)
              ) = some w → zc_W g h H locs → lv_has ls 7 [(0, va_rf ((some q))), (1, .int (y1)), (3, .int (y3)), (4, .int (y4)), (5, .int (y5)), (6, .int (v9))] → W p l e zr_X10_follows s m [va_rf ((some q)), .int (x1)].toArray below meth c H locs 0 0 (zc_Q g below zr_X10_follows (some (.int (res.2))) res.1 [va_rf ((some q)), .int (x1)] s) (F0 m 61 ls [.int (s61_0)]) := by
            intro s61_0 H locs ls hf hw hl
            refine lv_istore_n (i := 2) (lv' := [(2, .int (s61_0)), (0, va_rf ((some q))), (1, .int (y1)), (3, .int (y3)), (4, .int (y4)), (5, .int (y5)), (6, .int (v9))]) hx hb zd_X10_follows_61 rfl hl (by decide) rfl (fun ls hl => ?_)
            refine lv_iload_n hx hb zd_X10_follows_62 rfl (lv_at hl 3 rfl) ?_
            refine lv_iload hx hb zd_X10_follows_63 (lv_at hl 6 rfl) ?_
            refine va_mmax hx hb (S.2.2.1.trans hl.1.symm) S.2.2.2.1 (S.2.2.2.2 _ (List.mem_cons_of_mem _ zm_1305)) (S.2.2.2.2 _ (List.mem_cons_of_mem _ zm_569)) (S.2.2.2.2 _ (List.mem_cons_of_mem _ zm_85)) (S.2.2.2.2 _ (List.mem_cons_of_mem _ zm_570)) (Nat.le_of_ble_eq_true rfl) (by simp [zv_cat, zv_ci, zv_cj, zr_X10_follows]) (Nat.le_refl 0) (Nat.le_refl 0) zd_X10_follows_65 ?_
            refine lv_istore_n (i := 3) (lv' := [(3, .int ((if y3 < v9 then v9 else y3))), (2, .int (s61_0)), (0, va_rf ((some q))), (1, .int (y1)), (4, .int (y4)), (5, .int (y5)), (6, .int (v9))]) hx hb zd_X10_follows_68 rfl hl (by decide) rfl (fun ls hl => ?_)
            refine lv_iinc (i := 4) (v := (y4 + 1)) (lv' := [(4, .int ((y4 + 1))), (3, .int ((if y3 < v9 then v9 else y3))), (2, .int (s61_0)), (0, va_rf ((some q))), (1, .int (y1)), (5, .int (y5)), (6, .int (v9))]) hx hb zd_X10_follows_69 hl (k := 4) rfl (congrArg (_ + ·) (by decide)) (by decide) rfl (fun ls hl => ?_)
            exact k72h s61_0 (if y3 < v9 then v9 else y3) (y4 + 1) _ _ _ hf hw (lv_sub hl [3, 4, 2, 1, 0, 5] rfl)
          refine lv_if_ne (tgt := 55) hx hb zd_X10_follows_47 (by decide) (fun c11 => ?_) (fun c11 => ?_)
          · replace hf := zo_f c11 hf
            refine lv_iload_n hx hb zd_X10_follows_55 rfl (lv_at hl 3 rfl) ?_
            refine lv_iload hx hb zd_X10_follows_56 (lv_at hl 0 rfl) ?_
            refine va_mmin hx hb (S.2.2.1.trans hl.1.symm) S.2.2.2.1 (S.2.2.2.2 _ (List.mem_cons_of_mem _ zm_1423)) (S.2.2.2.2 _ (List.mem_cons_of_mem _ zm_522)) (S.2.2.2.2 _ (List.mem_cons_of_mem _ zm_85)) (S.2.2.2.2 _ (List.mem_cons_of_mem _ zm_523)) (Nat.le_of_ble_eq_true rfl) (by simp [zv_cat, zv_ci, zv_cj, zr_X10_follows]) (Nat.le_refl 0) (Nat.le_refl 0) zd_X10_follows_58 ?_
            exact k61h (if v9 < y2 then v9 else y2) _ _ _ hf hw (lv_sub hl [1, 2, 4, 5, 6, 0] rfl)
          · replace hf := zo_t c11 hf
            refine lv_iload hx hb zd_X10_follows_50 (lv_at hl 0 rfl) ?_
            refine lv_goto (tgt := 61) hx hb zd_X10_follows_52 (by decide) ?_
            exact k61h v9 _ _ _ hf hw (lv_sub hl [1, 2, 4, 5, 6, 0] rfl)
        · replace hf := zo_t c10 hf
          refine lv_goto (tgt := 72) hx hb zd_X10_follows_42 (by decide) ?_
          exact k72h y2 y3 y4 _ _ _ hf hw (lv_sub hl [1, 2, 3, 4, 5, 6] rfl)
  unfold zf_X10_follows at hf
  obtain ⟨-, hf⟩ := zo_n hf
  refine lv_iconst (v := (-1)) hx hb zd_X10_follows_0 (by decide) ?_
  refine lv_istore_n (i := 2) (lv' := [(2, .int ((-1))), (0, va_rf ((some q))), (1, .int (x1))]) hx hb zd_X10_follows_1 rfl hl (by decide) rfl (fun ls hl => ?_)
  refine lv_iconst (v := (-1)) hx hb zd_X10_follows_2 (by decide) ?_
  refine lv_istore_n (i := 3) (lv' := [(3, .int ((-1))), (2, .int ((-1))), (0, va_rf ((some q))), (1, .int (x1))]) hx hb zd_X10_follows_3 rfl hl (by decide) rfl (fun ls hl => ?_)
  refine lv_iconst (v := 0) hx hb zd_X10_follows_4 (by decide) ?_
  refine lv_istore (i := 4) (lv' := [(4, .int (0)), (3, .int ((-1))), (2, .int ((-1))), (0, va_rf ((some q))), (1, .int (x1))]) hx hb zd_X10_follows_5 hl (by decide) rfl (fun ls hl => ?_)
  refine zl_aload_n hx hb zd_X10_follows_7 rfl (lv_at hl 3 rfl) ?_
  replace hf := zo_b hf; obtain ⟨v1, ev1, hf⟩ := hf
  obtain ⟨u2, u2e, u2v⟩ := zo_b ev1
  obtain rfl := zv_i_e u2v
  refine zw_get S hK hw zk_10 (k := 31) (by decide) rfl zm_1119 (Or.inl rfl) u2e zd_X10_follows_8 ?_
  refine lv_istore (i := 5) (lv' := [(5, .int (v1)), (4, .int (0)), (3, .int ((-1))), (2, .int ((-1))), (0, va_rf ((some q))), (1, .int (x1))]) hx hb zd_X10_follows_11 hl (by decide) rfl (fun ls hl => ?_)
  replace hf := zo_b hf; obtain ⟨w12, w12e, hf⟩ := hf
  refine L13 h x1 2000 (-1) (-1) 0 v1 _ _ _ _ w12e hw (lv_sub hl [4, 5, 3, 2, 1, 0] rfl) (fun H locs ls hw hl => ?_)
  refine zl_aload_n hx hb zd_X10_follows_78 rfl (lv_at hl 0 rfl) ?_
  refine lv_iload_n hx hb zd_X10_follows_79 rfl (lv_at hl 1 rfl) ?_
  replace hf := zo_b hf; obtain ⟨h13, eh13, hf⟩ := hf
  refine zw_put S hK hw zk_10 (k := 31) (by decide) rfl zm_1119 (Or.inl rfl) eh13 (ty := .int) (by decide +kernel) rfl rfl zd_X10_follows_80 (fun H locs hw => ?_)
  refine zl_aload_n hx hb zd_X10_follows_83 rfl (lv_at hl 0 rfl) ?_
  refine lv_iload_n hx hb zd_X10_follows_84 rfl (lv_at hl 2 rfl) ?_
  replace hf := zo_b hf; obtain ⟨h14, eh14, hf⟩ := hf
  refine zw_put S hK hw zk_10 (k := 32) (by decide) rfl zm_1120 (Or.inl rfl) eh14 (ty := .int) (by decide +kernel) rfl rfl zd_X10_follows_85 (fun H locs hw => ?_)
  refine lv_iload hx hb zd_X10_follows_88 (lv_at hl 3 rfl) ?_
  have hres := Option.some.inj hf; subst hres
  exact zw_iret (v := w12.2.2) (ty := .int) hx hb hr hlk rfl hw zd_X10_follows_90 (Nat.le_refl 0) (Nat.le_refl 0)
def zf_X10_followsAsPoint_L5 (h : zc_H) (q : Nat) (y1 : Int32) (y2 : Int32) : Nat → Int32 → Option (Int32)
  | 0, _ => none
  | n + 1, y3 =>
    if y2 = 0 then
      some y3
    else
    if y3 ≤ 0 then
      some y3
    else
    (zf_gr h q 10 4).bind fun v5 =>
    v5.bind fun a7 =>
    (zf_ai h a7 0 ((24 * y1) + y3)).bind fun v8 =>
    if v8 = (-1) then
      zf_X10_followsAsPoint_L5 h q y1 y2 n (y3 + (-1))
    else
    some y3
def zf_X10_followsAsPoint (h : zc_H) (q : Nat) (x1 : Int32) (x2 : Int32) : Option (zc_H × Int32) :=
  if ¬ zf_is h q 10 = true then none else
  (zf_gi h q 10 31).bind fun v1 =>
  (zf_X10_followsAsPoint_L5 h q x1 x2 2000 v1).bind fun w10 =>
  (zf_gr h q 10 4).bind fun v11 =>
  v11.bind fun a13 =>
  (zf_ai h a13 0 ((24 * x1) + w10)).bind fun v14 =>
  (zf_p h q 10 31 (.int (v14))).bind fun h15 =>
  (zf_gi h15 q 10 31).bind fun v16 =>
  (zf_p h15 q 10 32 (.int (v16))).bind fun h18 =>
  (zf_gi h18 q 10 31).bind fun v19 =>
  if v19 = (-1) then
    some (h18, 0)
  else
  some (h18, 1)
abbrev zr_X10_followsAsPoint : Room := { frames := 0, cells := 0, slots := 0, locals := 0 }
theorem zi_X10_followsAsPoint {h : zc_H} {q : Nat} {x1 : Int32} {x2 : Int32} {res : zc_H × Int32} (hf : zf_X10_followsAsPoint h q x1 x2 = some res) : zf_is h q 10 = true := Decidable.not_not.mp (zo_n hf).1
set_option maxHeartbeats 4000000 in
set_option maxRecDepth 20000 in
theorem zt_X10_followsAsPoint (l : Launch) (g : zc_G) (h : zc_H) (q : Nat) (x1 : Int32) (x2 : Int32) (res : zc_H × Int32) (hf : zf_X10_followsAsPoint h q x1 x2 = some res) : zc_M l g yX10_followsAsPoint cX10_followsAsPoint 4 (some .boolean) zr_X10_followsAsPoint h [va_rf ((some q)), .int (x1), .int (x2)] res.1 (some (.int (res.2))) := by
  refine zc_M.of (by decide) (by simp [lg_sl, zv_cat, zv_ci, zv_cj]) ?_
  intro p e s m below meth c ls S hK hw hr hlk hnm hl
  replace S : CallFix p m c cX10_followsAsPoint 4 s [va_rf ((some q)), .int (x1), .int (x2)].toArray (zc_ws yX10_followsAsPoint cX10_followsAsPoint 4 (some .boolean)) RX10 := S
  have hx := S.1
  have hb := S.2.1
  replace hl : lv_has ls 4 [(0, va_rf ((some q))), (1, .int (x1)), (2, .int (x2))] := by simpa [lv_args, zv_cat, zv_ci, zv_cj] using hl
  generalize s.heap = H at hw ⊢
  obtain ⟨locs, hlocs⟩ : ∃ L : List Loc, L = [] := ⟨_, rfl⟩
  rw [← hlocs] at hw ⊢
  have L5 : ∀ (h : zc_H) (y1 : Int32) (y2 : Int32) (n : Nat) (y3 : Int32) (w : Int32) (H : Heap) (locs : List Loc) (ls : Array Slot), zf_X10_followsAsPoint_L5 h q y1 y2 n y3 = some w → zc_W g h H locs → lv_has ls 4 [(0, va_rf ((some q))), (1, .int (y1)), (2, .int (y2)), (3, .int (y3))] → (∀ (H : Heap) (locs : List Loc) (ls : Array Slot), zc_W g h H locs → lv_has ls 4 [(0, va_rf ((some q))), (1, .int (y1)), (3, .int (w))] → W p l e zr_X10_followsAsPoint s m [va_rf ((some q)), .int (x1), .int (x2)].toArray below meth c H locs 0 0 (zc_Q g below zr_X10_followsAsPoint (some (.int (res.2))) res.1 [va_rf ((some q)), .int (x1), .int (x2)] s) (F0 m 34 ls [])) → W p l e zr_X10_followsAsPoint s m [va_rf ((some q)), .int (x1), .int (x2)].toArray below meth c H locs 0 0 (zc_Q g below zr_X10_followsAsPoint (some (.int (res.2))) res.1 [va_rf ((some q)), .int (x1), .int (x2)] s) (F0 m 5 ls []) := by
    intro h y1 y2 n
    induction n with
    | zero =>
      intro y3 w H locs ls hf
      cases hf
    | succ n ih =>
      intro y3 w H locs ls hf hw hl  kk
      unfold zf_X10_followsAsPoint_L5 at hf
      refine lv_iload_n hx hb zd_X10_followsAsPoint_5 rfl (lv_at hl 2 rfl) ?_
      refine lv_if_eq (tgt := 34) hx hb zd_X10_followsAsPoint_6 (by decide) (fun c3 => ?_) (fun c3 => ?_)
      · replace hf := zo_t c3 hf
        have hres := Option.some.inj hf; subst hres
        exact kk _ _ _ hw (lv_sub hl [0, 1, 3] rfl)
      · replace hf := zo_f c3 hf
        refine lv_iload_n hx hb zd_X10_followsAsPoint_9 rfl (lv_at hl 3 rfl) ?_
        refine lv_if_le (tgt := 34) hx hb zd_X10_followsAsPoint_10 (by decide) (fun c4 => ?_) (fun c4 => ?_)
        · replace hf := zo_t c4 hf
          have hres := Option.some.inj hf; subst hres
          exact kk _ _ _ hw (lv_sub hl [0, 1, 3] rfl)
        · replace hf := zo_f c4 hf
          refine zl_aload_n hx hb zd_X10_followsAsPoint_13 rfl (lv_at hl 0 rfl) ?_
          replace hf := zo_b hf; obtain ⟨v5, ev5, hf⟩ := hf
          obtain ⟨u6, u6e, u6v⟩ := zo_b ev5
          obtain rfl := zv_r_e u6v
          refine zw_get S hK hw zk_10 (k := 4) (by decide) rfl zm_1092 (Or.inl rfl) u6e zd_X10_followsAsPoint_14 ?_
          refine lv_bipush (v := 24) hx hb zd_X10_followsAsPoint_17 (by decide) ?_
          refine lv_iload_n hx hb zd_X10_followsAsPoint_19 rfl (lv_at hl 1 rfl) ?_
          refine lv_imul hx hb zd_X10_followsAsPoint_20 ?_
          refine lv_iload_n hx hb zd_X10_followsAsPoint_21 rfl (lv_at hl 3 rfl) ?_
          refine lv_iadd hx hb zd_X10_followsAsPoint_22 ?_
          replace hf := zo_b hf; obtain ⟨a7, na7, hf⟩ := hf
          refine W.eq (g2 := F0 m 23 ls [.int (((24 * y1) + y3)), va_rf ((some a7))]) (by rw [na7] <;> rfl) ?_
          replace hf := zo_b hf; obtain ⟨v8, ev8, hf⟩ := hf
          refine zw_iald S hK hw ev8 zd_X10_followsAsPoint_23 ?_
          refine lv_iconst (v := (-1)) hx hb zd_X10_followsAsPoint_24 (by decide) ?_
          refine lv_icmp_ne (tgt := 34) hx hb zd_X10_followsAsPoint_25 (by decide) (fun c9 => ?_) (fun c9 => ?_)
          · replace hf := zo_f c9 hf
            have hres := Option.some.inj hf; subst hres
            exact kk _ _ _ hw (lv_sub hl [0, 1, 3] rfl)
          · replace hf := zo_t c9 hf
            refine lv_iinc (i := 3) (v := (y3 + (-1))) (lv' := [(3, .int ((y3 + (-1)))), (0, va_rf ((some q))), (1, .int (y1)), (2, .int (y2))]) hx hb zd_X10_followsAsPoint_28 hl (k := 3) rfl (congrArg (_ + ·) (by decide)) (by decide) rfl (fun ls hl => ?_)
            refine lv_goto (tgt := 5) hx hb zd_X10_followsAsPoint_31 (by decide) ?_
            exact ih (y3 + (-1)) _ _ _ _ hf hw (lv_sub hl [1, 2, 3, 0] rfl) kk
  unfold zf_X10_followsAsPoint at hf
  obtain ⟨-, hf⟩ := zo_n hf
  refine zl_aload_n hx hb zd_X10_followsAsPoint_0 rfl (lv_at hl 0 rfl) ?_
  replace hf := zo_b hf; obtain ⟨v1, ev1, hf⟩ := hf
  obtain ⟨u2, u2e, u2v⟩ := zo_b ev1
  obtain rfl := zv_i_e u2v
  refine zw_get S hK hw zk_10 (k := 31) (by decide) rfl zm_1119 (Or.inl rfl) u2e zd_X10_followsAsPoint_1 ?_
  refine lv_istore_n (i := 3) (lv' := [(3, .int (v1)), (0, va_rf ((some q))), (1, .int (x1)), (2, .int (x2))]) hx hb zd_X10_followsAsPoint_4 rfl hl (by decide) rfl (fun ls hl => ?_)
  replace hf := zo_b hf; obtain ⟨w10, w10e, hf⟩ := hf
  refine L5 h x1 x2 2000 v1 _ _ _ _ w10e hw (lv_sub hl [1, 2, 3, 0] rfl) (fun H locs ls hw hl => ?_)
  refine zl_aload_n hx hb zd_X10_followsAsPoint_34 rfl (lv_at hl 0 rfl) ?_
  refine zl_aload_n hx hb zd_X10_followsAsPoint_35 rfl (lv_at hl 0 rfl) ?_
  replace hf := zo_b hf; obtain ⟨v11, ev11, hf⟩ := hf
  obtain ⟨u12, u12e, u12v⟩ := zo_b ev11
  obtain rfl := zv_r_e u12v
  refine zw_get S hK hw zk_10 (k := 4) (by decide) rfl zm_1092 (Or.inl rfl) u12e zd_X10_followsAsPoint_36 ?_
  refine lv_bipush (v := 24) hx hb zd_X10_followsAsPoint_39 (by decide) ?_
  refine lv_iload_n hx hb zd_X10_followsAsPoint_41 rfl (lv_at hl 1 rfl) ?_
  refine lv_imul hx hb zd_X10_followsAsPoint_42 ?_
  refine lv_iload_n hx hb zd_X10_followsAsPoint_43 rfl (lv_at hl 2 rfl) ?_
  refine lv_iadd hx hb zd_X10_followsAsPoint_44 ?_
  replace hf := zo_b hf; obtain ⟨a13, na13, hf⟩ := hf
  refine W.eq (g2 := F0 m 45 ls [.int (((24 * x1) + w10)), va_rf ((some a13)), va_rf ((some q))]) (by rw [na13] <;> rfl) ?_
  replace hf := zo_b hf; obtain ⟨v14, ev14, hf⟩ := hf
  refine zw_iald S hK hw ev14 zd_X10_followsAsPoint_45 ?_
  replace hf := zo_b hf; obtain ⟨h15, eh15, hf⟩ := hf
  refine zw_put S hK hw zk_10 (k := 31) (by decide) rfl zm_1119 (Or.inl rfl) eh15 (ty := .int) (by decide +kernel) rfl rfl zd_X10_followsAsPoint_46 (fun H locs hw => ?_)
  refine zl_aload_n hx hb zd_X10_followsAsPoint_49 rfl (lv_at hl 0 rfl) ?_
  refine zl_aload_n hx hb zd_X10_followsAsPoint_50 rfl (lv_at hl 0 rfl) ?_
  replace hf := zo_b hf; obtain ⟨v16, ev16, hf⟩ := hf
  obtain ⟨u17, u17e, u17v⟩ := zo_b ev16
  obtain rfl := zv_i_e u17v
  refine zw_get S hK hw zk_10 (k := 31) (by decide) rfl zm_1119 (Or.inl rfl) u17e zd_X10_followsAsPoint_51 ?_
  replace hf := zo_b hf; obtain ⟨h18, eh18, hf⟩ := hf
  refine zw_put S hK hw zk_10 (k := 32) (by decide) rfl zm_1120 (Or.inl rfl) eh18 (ty := .int) (by decide +kernel) rfl rfl zd_X10_followsAsPoint_54 (fun H locs hw => ?_)
  refine zl_aload_n hx hb zd_X10_followsAsPoint_57 rfl (lv_at hl 0 rfl) ?_
  replace hf := zo_b hf; obtain ⟨v19, ev19, hf⟩ := hf
  obtain ⟨u20, u20e, u20v⟩ := zo_b ev19
  obtain rfl := zv_i_e u20v
  refine zw_get S hK hw zk_10 (k := 31) (by decide) rfl zm_1119 (Or.inl rfl) u20e zd_X10_followsAsPoint_58 ?_
  refine lv_iconst (v := (-1)) hx hb zd_X10_followsAsPoint_61 (by decide) ?_
  refine lv_icmp_eq (tgt := 69) hx hb zd_X10_followsAsPoint_62 (by decide) (fun c21 => ?_) (fun c21 => ?_)
  · replace hf := zo_t c21 hf
    refine lv_iconst (v := 0) hx hb zd_X10_followsAsPoint_69 (by decide) ?_
    have hres := Option.some.inj hf; subst hres
    exact zw_iret (v := 0) (ty := .boolean) hx hb hr hlk rfl hw zd_X10_followsAsPoint_70 (Nat.le_refl 0) (Nat.le_refl 0)
  · replace hf := zo_f c21 hf
    refine lv_iconst (v := 1) hx hb zd_X10_followsAsPoint_65 (by decide) ?_
    refine lv_goto (tgt := 70) hx hb zd_X10_followsAsPoint_66 (by decide) ?_
    have hres := Option.some.inj hf; subst hres
    exact zw_iret (v := 1) (ty := .boolean) hx hb hr hlk rfl hw zd_X10_followsAsPoint_70 (Nat.le_refl 0) (Nat.le_refl 0)
def zf_X10_goesTo (h : zc_H) (q : Nat) (x1 : Int32) (x2 : Int32) (x3 : Int32) : Option (zc_H × Int32) :=
  if ¬ zf_is h q 10 = true then none else
  (zf_gi h q 10 32).bind fun v1 =>
  (zf_gi h q 10 31).bind fun v3 =>
  if x1 = 1 then
    (zf_X10_followsAsPoint h q x3 0).bind fun r6 =>
    if ¬ (r6.2 = 0 ∨ r6.2 = 1) then none else
    some (r6.1, r6.2)
  else
  if x1 = 3 then
    (zf_X10_followsAsPoint h q x3 1).bind fun r9 =>
    if ¬ (r9.2 = 0 ∨ r9.2 = 1) then none else
    some (r9.1, r9.2)
  else
  if x1 = 6 then
    (zf_X10_followsAsPoint h q x3 1).bind fun r12 =>
    if r12.2 = 0 then
      some (r12.1, 0)
    else
    (zf_gr r12.1 q 10 2).bind fun v14 =>
    v14.bind fun a16 =>
    (zf_ai r12.1 a16 0 x3).bind fun v17 =>
    (zf_p r12.1 q 10 32 (.int ((v17 - 1)))).bind fun h18 =>
    some (h18, 1)
  else
  (zf_X10_follows h q x3).bind fun r19 =>
  if r19.2 = 0 then
    some (r19.1, 0)
  else
  if x1 = 4 then
    if (10 * r19.2) < (x2 * ((v1 - v3) + 1)) then
      some (r19.1, 0)
    else
    some (r19.1, 1)
  else
  let k134 := fun (_ : Unit) =>
    if r19.2 = ((v1 - v3) + 1) then
      (zf_gi r19.1 q 10 32).bind fun v24 =>
      (zf_gi r19.1 q 10 31).bind fun v26 =>
      let k166 := fun (s166_0 : Int32) (s166_1 : Int32) =>
        if s166_0 < s166_1 then
          some (r19.1, 0)
        else
        some (r19.1, 1)
      if x1 = 5 then
        k166 (((v1 - v3) + 1) + x2) ((v24 - v26) + 1)
      else
      k166 ((v1 - v3) + 1) ((v24 - v26) + 1)
    else
    some (r19.1, 0)
  if x1 = 2 then
    k134 ()
  else
  if x1 = 5 then
    k134 ()
  else
  some (r19.1, 1)
abbrev zr_X10_goesTo : Room := { frames := 2, cells := 0, slots := 0, locals := 66 }
theorem zi_X10_goesTo {h : zc_H} {q : Nat} {x1 : Int32} {x2 : Int32} {x3 : Int32} {res : zc_H × Int32} (hf : zf_X10_goesTo h q x1 x2 x3 = some res) : zf_is h q 10 = true := Decidable.not_not.mp (zo_n hf).1
set_option maxHeartbeats 4000000 in
set_option maxRecDepth 20000 in
theorem zt_X10_goesTo (l : Launch) (g : zc_G) (h : zc_H) (q : Nat) (x1 : Int32) (x2 : Int32) (x3 : Int32) (res : zc_H × Int32) (hf : zf_X10_goesTo h q x1 x2 x3 = some res) : zc_M l g yX10_goesTo cX10_goesTo 6 (some .boolean) zr_X10_goesTo h [va_rf ((some q)), .int (x1), .int (x2), .int (x3)] res.1 (some (.int (res.2))) := by
  refine zc_M.of (by decide) (by simp [lg_sl, zv_cat, zv_ci, zv_cj]) ?_
  intro p e s m below meth c ls S hK hw hr hlk hnm hl
  replace S : CallFix p m c cX10_goesTo 6 s [va_rf ((some q)), .int (x1), .int (x2), .int (x3)].toArray (zc_ws yX10_goesTo cX10_goesTo 6 (some .boolean)) RX10 := S
  have hx := S.1
  have hb := S.2.1
  replace hl : lv_has ls 6 [(0, va_rf ((some q))), (1, .int (x1)), (2, .int (x2)), (3, .int (x3))] := by simpa [lv_args, zv_cat, zv_ci, zv_cj] using hl
  generalize s.heap = H at hw ⊢
  obtain ⟨locs, hlocs⟩ : ∃ L : List Loc, L = [] := ⟨_, rfl⟩
  rw [← hlocs] at hw ⊢
  unfold zf_X10_goesTo at hf
  obtain ⟨-, hf⟩ := zo_n hf
  refine zl_aload_n hx hb zd_X10_goesTo_0 rfl (lv_at hl 0 rfl) ?_
  replace hf := zo_b hf; obtain ⟨v1, ev1, hf⟩ := hf
  obtain ⟨u2, u2e, u2v⟩ := zo_b ev1
  obtain rfl := zv_i_e u2v
  refine zw_get S hK hw zk_10 (k := 32) (by decide) rfl zm_1120 (Or.inl rfl) u2e zd_X10_goesTo_1 ?_
  refine zl_aload_n hx hb zd_X10_goesTo_4 rfl (lv_at hl 0 rfl) ?_
  replace hf := zo_b hf; obtain ⟨v3, ev3, hf⟩ := hf
  obtain ⟨u4, u4e, u4v⟩ := zo_b ev3
  obtain rfl := zv_i_e u4v
  refine zw_get S hK hw zk_10 (k := 31) (by decide) rfl zm_1119 (Or.inl rfl) u4e zd_X10_goesTo_5 ?_
  refine lv_isub hx hb zd_X10_goesTo_8 ?_
  refine lv_iconst (v := 1) hx hb zd_X10_goesTo_9 (by decide) ?_
  refine lv_iadd hx hb zd_X10_goesTo_10 ?_
  refine lv_istore (i := 4) (lv' := [(4, .int (((v1 - v3) + 1))), (0, va_rf ((some q))), (1, .int (x1)), (2, .int (x2)), (3, .int (x3))]) hx hb zd_X10_goesTo_11 hl (by decide) rfl (fun ls hl => ?_)
  refine lv_iload_n hx hb zd_X10_goesTo_13 rfl (lv_at hl 2 rfl) ?_
  by_cases c5 : x1 = 1
  · replace hf := zo_t c5 hf
    refine W.eq (g2 := F0 m 14 ls (.int 1 :: [])) (by rw [c5] <;> rfl) ?_
    refine lv_lookup (off := 34) (tgt := 48) hx hb zd_X10_goesTo_14 (by decide) (by decide) (by decide) ?_
    refine zl_aload_n hx hb zd_X10_goesTo_48 rfl (lv_at hl 1 rfl) ?_
    refine lv_iload_n hx hb zd_X10_goesTo_49 rfl (lv_at hl 4 rfl) ?_
    refine lv_iconst (v := 0) hx hb zd_X10_goesTo_50 (by decide) ?_
    replace hf := zo_b hf; obtain ⟨r6, er6, hf⟩ := hf
    refine zw_callV (n := 2) (ci := 10) (q := zc_cl[10]) (As := [.int (x3), .int (0)]) (rest := []) S hK hw (zt_X10_followsAsPoint l g h q x3 0 _ er6) zm_1415 zm_1417 zm_51 zq_X10_followsAsPoint zm_79 (by decide +kernel) ⟨Nat.le_of_ble_eq_true rfl, Nat.le_of_ble_eq_true rfl⟩ rfl rfl rfl (zi_X10_followsAsPoint er6) hl.1 rfl (by simp [zv_cat, zv_ci, zv_cj]) zd_X10_goesTo_51 ⟨(Nat.le_refl 0), (Nat.le_refl 0)⟩ (fun H locs hw => ?_)
    replace hw : zc_W g r6.1 H locs := hw
    replace hf := zo_n hf; obtain ⟨z7, hf⟩ := hf
    have hres := Option.some.inj hf; subst hres
    exact zw_iret (v := r6.2) (ty := .boolean) hx hb hr hlk (zv_z1 (Decidable.not_not.mp z7)) hw zd_X10_goesTo_54 (Nat.le_refl 0) (Nat.le_refl 0)
  replace hf := zo_f c5 hf
  by_cases c8 : x1 = 3
  · replace hf := zo_t c8 hf
    refine W.eq (g2 := F0 m 14 ls (.int 3 :: [])) (by rw [c8] <;> rfl) ?_
    refine lv_lookup (off := 41) (tgt := 55) hx hb zd_X10_goesTo_14 (by decide) (by decide) (by decide) ?_
    refine zl_aload_n hx hb zd_X10_goesTo_55 rfl (lv_at hl 1 rfl) ?_
    refine lv_iload_n hx hb zd_X10_goesTo_56 rfl (lv_at hl 4 rfl) ?_
    refine lv_iconst (v := 1) hx hb zd_X10_goesTo_57 (by decide) ?_
    replace hf := zo_b hf; obtain ⟨r9, er9, hf⟩ := hf
    refine zw_callV (n := 2) (ci := 10) (q := zc_cl[10]) (As := [.int (x3), .int (1)]) (rest := []) S hK hw (zt_X10_followsAsPoint l g h q x3 1 _ er9) zm_1415 zm_1417 zm_51 zq_X10_followsAsPoint zm_79 (by decide +kernel) ⟨Nat.le_of_ble_eq_true rfl, Nat.le_of_ble_eq_true rfl⟩ rfl rfl rfl (zi_X10_followsAsPoint er9) hl.1 rfl (by simp [zv_cat, zv_ci, zv_cj]) zd_X10_goesTo_58 ⟨(Nat.le_refl 0), (Nat.le_refl 0)⟩ (fun H locs hw => ?_)
    replace hw : zc_W g r9.1 H locs := hw
    replace hf := zo_n hf; obtain ⟨z10, hf⟩ := hf
    have hres := Option.some.inj hf; subst hres
    exact zw_iret (v := r9.2) (ty := .boolean) hx hb hr hlk (zv_z1 (Decidable.not_not.mp z10)) hw zd_X10_goesTo_61 (Nat.le_refl 0) (Nat.le_refl 0)
  replace hf := zo_f c8 hf
  by_cases c11 : x1 = 6
  · replace hf := zo_t c11 hf
    refine W.eq (g2 := F0 m 14 ls (.int 6 :: [])) (by rw [c11] <;> rfl) ?_
    refine lv_lookup (off := 48) (tgt := 62) hx hb zd_X10_goesTo_14 (by decide) (by decide) (by decide) ?_
    refine zl_aload_n hx hb zd_X10_goesTo_62 rfl (lv_at hl 1 rfl) ?_
    refine lv_iload_n hx hb zd_X10_goesTo_63 rfl (lv_at hl 4 rfl) ?_
    refine lv_iconst (v := 1) hx hb zd_X10_goesTo_64 (by decide) ?_
    replace hf := zo_b hf; obtain ⟨r12, er12, hf⟩ := hf
    refine zw_callV (n := 2) (ci := 10) (q := zc_cl[10]) (As := [.int (x3), .int (1)]) (rest := []) S hK hw (zt_X10_followsAsPoint l g h q x3 1 _ er12) zm_1415 zm_1417 zm_51 zq_X10_followsAsPoint zm_79 (by decide +kernel) ⟨Nat.le_of_ble_eq_true rfl, Nat.le_of_ble_eq_true rfl⟩ rfl rfl rfl (zi_X10_followsAsPoint er12) hl.1 rfl (by simp [zv_cat, zv_ci, zv_cj]) zd_X10_goesTo_65 ⟨(Nat.le_refl 0), (Nat.le_refl 0)⟩ (fun H locs hw => ?_)
    replace hw : zc_W g r12.1 H locs := hw
    refine lv_if_ne (tgt := 73) hx hb zd_X10_goesTo_68 (by decide) (fun c13 => ?_) (fun c13 => ?_)
    · replace hf := zo_f c13 hf
      refine zl_aload_n hx hb zd_X10_goesTo_73 rfl (lv_at hl 1 rfl) ?_
      refine zl_aload_n hx hb zd_X10_goesTo_74 rfl (lv_at hl 1 rfl) ?_
      replace hf := zo_b hf; obtain ⟨v14, ev14, hf⟩ := hf
      obtain ⟨u15, u15e, u15v⟩ := zo_b ev14
      obtain rfl := zv_r_e u15v
      refine zw_get S hK hw zk_10 (k := 2) (by decide) rfl zm_1090 (Or.inl rfl) u15e zd_X10_goesTo_75 ?_
      refine lv_iload_n hx hb zd_X10_goesTo_78 rfl (lv_at hl 4 rfl) ?_
      replace hf := zo_b hf; obtain ⟨a16, na16, hf⟩ := hf
      refine W.eq (g2 := F0 m 79 ls [.int (x3), va_rf ((some a16)), va_rf ((some q))]) (by rw [na16] <;> rfl) ?_
      replace hf := zo_b hf; obtain ⟨v17, ev17, hf⟩ := hf
      refine zw_iald S hK hw ev17 zd_X10_goesTo_79 ?_
      refine lv_iconst (v := 1) hx hb zd_X10_goesTo_80 (by decide) ?_
      refine lv_isub hx hb zd_X10_goesTo_81 ?_
      replace hf := zo_b hf; obtain ⟨h18, eh18, hf⟩ := hf
      refine zw_put S hK hw zk_10 (k := 32) (by decide) rfl zm_1120 (Or.inl rfl) eh18 (ty := .int) (by decide +kernel) rfl rfl zd_X10_goesTo_82 (fun H locs hw => ?_)
      refine lv_iconst (v := 1) hx hb zd_X10_goesTo_85 (by decide) ?_
      have hres := Option.some.inj hf; subst hres
      exact zw_iret (v := 1) (ty := .boolean) hx hb hr hlk rfl hw zd_X10_goesTo_86 (Nat.le_refl 0) (Nat.le_refl 0)
    · replace hf := zo_t c13 hf
      refine lv_iconst (v := 0) hx hb zd_X10_goesTo_71 (by decide) ?_
      have hres := Option.some.inj hf; subst hres
      exact zw_iret (v := 0) (ty := .boolean) hx hb hr hlk rfl hw zd_X10_goesTo_72 (Nat.le_refl 0) (Nat.le_refl 0)
  replace hf := zo_f c11 hf
  have zc5 : (x1 : Int32).toInt ≠ 1 := fun h => c5 (Int32.toInt_inj.mp (h.trans (by decide)))
  have zc8 : (x1 : Int32).toInt ≠ 3 := fun h => c8 (Int32.toInt_inj.mp (h.trans (by decide)))
  have zc11 : (x1 : Int32).toInt ≠ 6 := fun h => c11 (Int32.toInt_inj.mp (h.trans (by decide)))
  refine lv_lookup (off := 73) (tgt := 87) hx hb zd_X10_goesTo_14 (by decide) (by simp [Op.lookupswitch.offset, Ne.symm zc5, Ne.symm zc8, Ne.symm zc11]) (by decide) ?_
  refine zl_aload_n hx hb zd_X10_goesTo_87 rfl (lv_at hl 1 rfl) ?_
  refine lv_iload_n hx hb zd_X10_goesTo_88 rfl (lv_at hl 4 rfl) ?_
  replace hf := zo_b hf; obtain ⟨r19, er19, hf⟩ := hf
  refine zw_callV (n := 1) (ci := 10) (q := zc_cl[10]) (As := [.int (x3)]) (rest := []) S hK hw (zt_X10_follows l g h q x3 _ er19) zm_1419 zm_1421 zm_52 zq_X10_follows zm_79 (by decide +kernel) ⟨Nat.le_of_ble_eq_true rfl, Nat.le_of_ble_eq_true rfl⟩ rfl rfl rfl (zi_X10_follows er19) hl.1 rfl (by simp [zv_cat, zv_ci, zv_cj]) zd_X10_goesTo_89 ⟨(Nat.le_refl 0), (Nat.le_refl 0)⟩ (fun H locs hw => ?_)
  replace hw : zc_W g r19.1 H locs := hw
  refine lv_istore (i := 5) (lv' := [(5, .int (r19.2)), (4, .int (((v1 - v3) + 1))), (0, va_rf ((some q))), (1, .int (x1)), (2, .int (x2)), (3, .int (x3))]) hx hb zd_X10_goesTo_92 hl (by decide) rfl (fun ls hl => ?_)
  refine lv_iload hx hb zd_X10_goesTo_94 (lv_at hl 0 rfl) ?_
  refine lv_if_ne (tgt := 101) hx hb zd_X10_goesTo_96 (by decide) (fun c20 => ?_) (fun c20 => ?_)
  · replace hf := zo_f c20 hf
    refine lv_iload_n hx hb zd_X10_goesTo_101 rfl (lv_at hl 3 rfl) ?_
    refine lv_iconst (v := 4) hx hb zd_X10_goesTo_102 (by decide) ?_
    refine lv_icmp_ne (tgt := 124) hx hb zd_X10_goesTo_103 (by decide) (fun c21 => ?_) (fun c21 => ?_)
    · replace hf := zo_f c21 hf
      refine lv_iload_n hx hb zd_X10_goesTo_124 rfl (lv_at hl 3 rfl) ?_
      refine lv_iconst (v := 2) hx hb zd_X10_goesTo_125 (by decide) ?_
      have k134h : ∀ (_ : Unit) (H : Heap) (locs : List Loc) (ls : Array Slot), (
          if r19.2 = ((v1 - v3) + 1) then
            (zf_gi r19.1 q 10 32).bind fun v24 =>
            (zf_gi r19.1 q 10 31).bind fun v26 =>
            let k166 := fun (s166_0 : Int32) (s166_1 : Int32) =>
              if s166_0 < s166_1 then
                some (r19.1, 0)
              else
              some (r19.1, 1)
            if x1 = 5 then
              k166 (((v1 - v3) + 1) + x2) ((v24 - v26) + 1)
            else
            k166 ((v1 - v3) + 1) ((v24 - v26) + 1)
          else
          some (r19.1, 0)
          ) = some res → zc_W g r19.1 H locs → lv_has ls 6 [(0, va_rf ((some q))), (1, .int (x1)), (2, .int (x2)), (4, .int (((v1 - v3) + 1))), (5, .int (r19.2))] → W p l e zr_X10_goesTo s m [va_rf ((some q)), .int (x1), .int (x2), .int (x3)].toArray below meth c H locs (0 + 0) (0 + 0) (zc_Q g below zr_X10_goesTo (some (.int (res.2))) res.1 [va_rf ((some q)), .int (x1), .int (x2), .int (x3)] s) (F0 m 134 ls []) := by
        intro _ H locs ls hf hw hl
        refine lv_iload hx hb zd_X10_goesTo_134 (lv_at hl 4 rfl) ?_
        refine lv_iload hx hb zd_X10_goesTo_136 (lv_at hl 3 rfl) ?_
        refine lv_icmp_ne (tgt := 173) hx hb zd_X10_goesTo_138 (by decide) (fun c23 => ?_) (fun c23 => ?_)
        · replace hf := zo_f c23 hf
          refine lv_iconst (v := 0) hx hb zd_X10_goesTo_173 (by decide) ?_
          have hres := Option.some.inj hf; subst hres
          exact zw_iret (v := 0) (ty := .boolean) hx hb hr hlk rfl hw zd_X10_goesTo_174 (Nat.le_refl 0) (Nat.le_refl 0)
        · replace hf := zo_t c23 hf
          refine zl_aload_n hx hb zd_X10_goesTo_141 rfl (lv_at hl 0 rfl) ?_
          replace hf := zo_b hf; obtain ⟨v24, ev24, hf⟩ := hf
          obtain ⟨u25, u25e, u25v⟩ := zo_b ev24
          obtain rfl := zv_i_e u25v
          refine zw_get S hK hw zk_10 (k := 32) (by decide) rfl zm_1120 (Or.inl rfl) u25e zd_X10_goesTo_142 ?_
          refine zl_aload_n hx hb zd_X10_goesTo_145 rfl (lv_at hl 0 rfl) ?_
          replace hf := zo_b hf; obtain ⟨v26, ev26, hf⟩ := hf
          obtain ⟨u27, u27e, u27v⟩ := zo_b ev26
          obtain rfl := zv_i_e u27v
          refine zw_get S hK hw zk_10 (k := 31) (by decide) rfl zm_1119 (Or.inl rfl) u27e zd_X10_goesTo_146 ?_
          refine lv_isub hx hb zd_X10_goesTo_149 ?_
          refine lv_iconst (v := 1) hx hb zd_X10_goesTo_150 (by decide) ?_
          refine lv_iadd hx hb zd_X10_goesTo_151 ?_
          refine lv_iload_n hx hb zd_X10_goesTo_152 rfl (lv_at hl 1 rfl) ?_
          refine lv_iconst (v := 5) hx hb zd_X10_goesTo_153 (by decide) ?_
          have k166h : ∀ (s166_0 : Int32) (s166_1 : Int32) (H : Heap) (locs : List Loc) (ls : Array Slot), (
              if s166_0 < s166_1 then
                some (r19.1, 0)
              else
              some (r19.1, 1)
              ) = some res → zc_W g r19.1 H locs → lv_has ls 6 [] → W p l e zr_X10_goesTo s m [va_rf ((some q)), .int (x1), .int (x2), .int (x3)].toArray below meth c H locs (0 + 0) (0 + 0) (zc_Q g below zr_X10_goesTo (some (.int (res.2))) res.1 [va_rf ((some q)), .int (x1), .int (x2), .int (x3)] s) (F0 m 166 ls [.int (s166_0), .int (s166_1)]) := by
            intro s166_0 s166_1 H locs ls hf hw hl
            refine lv_icmp_gt (tgt := 173) hx hb zd_X10_goesTo_166 (by decide) (fun c29 => ?_) (fun c29 => ?_)
            · replace hf := zo_t c29 hf
              refine lv_iconst (v := 0) hx hb zd_X10_goesTo_173 (by decide) ?_
              have hres := Option.some.inj hf; subst hres
              exact zw_iret (v := 0) (ty := .boolean) hx hb hr hlk rfl hw zd_X10_goesTo_174 (Nat.le_refl 0) (Nat.le_refl 0)
            · replace hf := zo_f c29 hf
              refine lv_iconst (v := 1) hx hb zd_X10_goesTo_169 (by decide) ?_
              refine lv_goto (tgt := 174) hx hb zd_X10_goesTo_170 (by decide) ?_
              have hres := Option.some.inj hf; subst hres
              exact zw_iret (v := 1) (ty := .boolean) hx hb hr hlk rfl hw zd_X10_goesTo_174 (Nat.le_refl 0) (Nat.le_refl 0)
          refine lv_icmp_ne (tgt := 164) hx hb zd_X10_goesTo_154 (by decide) (fun c28 => ?_) (fun c28 => ?_)
          · replace hf := zo_f c28 hf
            refine lv_iload hx hb zd_X10_goesTo_164 (lv_at hl 3 rfl) ?_
            exact k166h ((v1 - v3) + 1) ((v24 - v26) + 1) _ _ _ hf hw (lv_sub hl [] rfl)
          · replace hf := zo_t c28 hf
            refine lv_iload hx hb zd_X10_goesTo_157 (lv_at hl 3 rfl) ?_
            refine lv_iload_n hx hb zd_X10_goesTo_159 rfl (lv_at hl 2 rfl) ?_
            refine lv_iadd hx hb zd_X10_goesTo_160 ?_
            refine lv_goto (tgt := 166) hx hb zd_X10_goesTo_161 (by decide) ?_
            exact k166h (((v1 - v3) + 1) + x2) ((v24 - v26) + 1) _ _ _ hf hw (lv_sub hl [] rfl)
      refine lv_icmp_eq (tgt := 134) hx hb zd_X10_goesTo_126 (by decide) (fun c22 => ?_) (fun c22 => ?_)
      · replace hf := zo_t c22 hf
        exact k134h () _ _ _ hf hw (lv_sub hl [2, 3, 4, 1, 0] rfl)
      · replace hf := zo_f c22 hf
        refine lv_iload_n hx hb zd_X10_goesTo_129 rfl (lv_at hl 3 rfl) ?_
        refine lv_iconst (v := 5) hx hb zd_X10_goesTo_130 (by decide) ?_
        refine lv_icmp_ne (tgt := 175) hx hb zd_X10_goesTo_131 (by decide) (fun c30 => ?_) (fun c30 => ?_)
        · replace hf := zo_f c30 hf
          refine lv_iconst (v := 1) hx hb zd_X10_goesTo_175 (by decide) ?_
          have hres := Option.some.inj hf; subst hres
          exact zw_iret (v := 1) (ty := .boolean) hx hb hr hlk rfl hw zd_X10_goesTo_176 (Nat.le_refl 0) (Nat.le_refl 0)
        · replace hf := zo_t c30 hf
          exact k134h () _ _ _ hf hw (lv_sub hl [2, 3, 4, 1, 0] rfl)
    · replace hf := zo_t c21 hf
      refine lv_bipush (v := 10) hx hb zd_X10_goesTo_106 (by decide) ?_
      refine lv_iload hx hb zd_X10_goesTo_108 (lv_at hl 0 rfl) ?_
      refine lv_imul hx hb zd_X10_goesTo_110 ?_
      refine lv_iload_n hx hb zd_X10_goesTo_111 rfl (lv_at hl 4 rfl) ?_
      refine lv_iload hx hb zd_X10_goesTo_112 (lv_at hl 1 rfl) ?_
      refine lv_imul hx hb zd_X10_goesTo_114 ?_
      refine lv_icmp_lt (tgt := 122) hx hb zd_X10_goesTo_115 (by decide) (fun c31 => ?_) (fun c31 => ?_)
      · replace hf := zo_t c31 hf
        refine lv_iconst (v := 0) hx hb zd_X10_goesTo_122 (by decide) ?_
        have hres := Option.some.inj hf; subst hres
        exact zw_iret (v := 0) (ty := .boolean) hx hb hr hlk rfl hw zd_X10_goesTo_123 (Nat.le_refl 0) (Nat.le_refl 0)
      · replace hf := zo_f c31 hf
        refine lv_iconst (v := 1) hx hb zd_X10_goesTo_118 (by decide) ?_
        refine lv_goto (tgt := 123) hx hb zd_X10_goesTo_119 (by decide) ?_
        have hres := Option.some.inj hf; subst hres
        exact zw_iret (v := 1) (ty := .boolean) hx hb hr hlk rfl hw zd_X10_goesTo_123 (Nat.le_refl 0) (Nat.le_refl 0)
  · replace hf := zo_t c20 hf
    refine lv_iconst (v := 0) hx hb zd_X10_goesTo_99 (by decide) ?_
    have hres := Option.some.inj hf; subst hres
    exact zw_iret (v := 0) (ty := .boolean) hx hb hr hlk rfl hw zd_X10_goesTo_100 (Nat.le_refl 0) (Nat.le_refl 0)
def zf_X10_score_L18 (h : zc_H) (q : Nat) (y1 : Int32) (y2 : Int32) (y3 : Int32) : Nat → Int32 → Int32 → Option (Int32)
  | 0, _, _ => none
  | n + 1, y4, y5 =>
    if y3 ≤ y5 then
      some y4
    else
    (zf_gi h q 10 34).bind fun v6 =>
    (zf_gi h q 10 35).bind fun v8 =>
    (zf_X10_isAlike h q v6 (v8 + y5) y1 (y2 + y5)).bind fun r10 =>
    let k50 := fun (y50_4 : Int32) =>
      zf_X10_score_L18 h q y1 y2 y3 n y50_4 (y5 + 1)
    if r10 = 0 then
      k50 y4
    else
    k50 (y4 + 3)
def zf_X10_score (h : zc_H) (q : Nat) (x1 : Int32) (x2 : Int32) : Option (Int32) :=
  if ¬ zf_is h q 10 = true then none else
  (zf_gi h q 10 36).bind fun v1 =>
  (zf_gi h q 10 35).bind fun v3 =>
  (zf_X10_score_L18 h q x1 x2 ((v1 - v3) + 1) 2000 0 0).bind fun w12 =>
  (zf_gi h q 10 35).bind fun v13 =>
  let k68 := fun (s68_0 : Int32) =>
    let k81 := fun (s81_0 : Int32) (s81_1 : Int32) =>
      let k113 := fun (y113_4 : Int32) =>
        (zf_gi h q 10 36).bind fun v18 =>
        (zf_gr h q 10 2).bind fun v20 =>
        (zf_gi h q 10 34).bind fun v22 =>
        v20.bind fun a24 =>
        (zf_ai h a24 0 v22).bind fun v25 =>
        let k136 := fun (s136_0 : Int32) =>
          (zf_gr h q 10 2).bind fun v27 =>
          v27.bind fun a29 =>
          (zf_ai h a29 0 x1).bind fun v30 =>
          let k157 := fun (s157_0 : Int32) (s157_1 : Int32) =>
            if s157_1 = s157_0 then
              let k186 := fun (_ : Unit) =>
                some (y113_4 + 2)
              if s136_0 = 0 then
                (zf_gi h q 10 34).bind fun v34 =>
                (zf_gi h q 10 36).bind fun v36 =>
                (zf_X10_isAlike h q v34 (v36 + 1) x1 (x2 + ((v1 - v3) + 1))).bind fun r38 =>
                if r38 = 0 then
                  some y113_4
                else
                k186 ()
              else
              k186 ()
            else
            some y113_4
          if (x2 + ((v1 - v3) + 1)) = v30 then
            k157 1 s136_0
          else
          k157 0 s136_0
        if v18 = (v25 - 1) then
          k136 1
        else
        k136 0
      if s81_1 = s81_0 then
        let k110 := fun (_ : Unit) =>
          k113 (w12 + 2)
        if s68_0 = 0 then
          (zf_gi h q 10 34).bind fun v41 =>
          (zf_gi h q 10 35).bind fun v43 =>
          (zf_X10_isAlike h q v41 (v43 - 1) x1 (x2 - 1)).bind fun r45 =>
          if r45 = 0 then
            k113 w12
          else
          k110 ()
        else
        k110 ()
      else
      k113 w12
    if x2 = 0 then
      k81 1 s68_0
    else
    k81 0 s68_0
  if v13 = 0 then
    k68 1
  else
  k68 0
abbrev zr_X10_score : Room := { frames := 1, cells := 0, slots := 0, locals := 24 }
theorem zi_X10_score {h : zc_H} {q : Nat} {x1 : Int32} {x2 : Int32} {res : Int32} (hf : zf_X10_score h q x1 x2 = some res) : zf_is h q 10 = true := Decidable.not_not.mp (zo_n hf).1
set_option maxHeartbeats 4000000 in
set_option maxRecDepth 20000 in
theorem zt_X10_score (l : Launch) (g : zc_G) (h : zc_H) (q : Nat) (x1 : Int32) (x2 : Int32) (res : Int32) (hf : zf_X10_score h q x1 x2 = some res) : zc_M l g yX10_score cX10_score 7 (some .int) zr_X10_score h [va_rf ((some q)), .int (x1), .int (x2)] h (some (.int (res))) := by
  refine zc_M.of (by decide) (by simp [lg_sl, zv_cat, zv_ci, zv_cj]) ?_
  intro p e s m below meth c ls S hK hw hr hlk hnm hl
  replace S : CallFix p m c cX10_score 7 s [va_rf ((some q)), .int (x1), .int (x2)].toArray (zc_ws yX10_score cX10_score 7 (some .int)) RX10 := S
  have hx := S.1
  have hb := S.2.1
  replace hl : lv_has ls 7 [(0, va_rf ((some q))), (1, .int (x1)), (2, .int (x2))] := by simpa [lv_args, zv_cat, zv_ci, zv_cj] using hl
  generalize s.heap = H at hw ⊢
  obtain ⟨locs, hlocs⟩ : ∃ L : List Loc, L = [] := ⟨_, rfl⟩
  rw [← hlocs] at hw ⊢
  have L18 : ∀ (h : zc_H) (y1 : Int32) (y2 : Int32) (y3 : Int32) (n : Nat) (y4 : Int32) (y5 : Int32) (w : Int32) (H : Heap) (locs : List Loc) (ls : Array Slot), zf_X10_score_L18 h q y1 y2 y3 n y4 y5 = some w → zc_W g h H locs → lv_has ls 7 [(0, va_rf ((some q))), (1, .int (y1)), (2, .int (y2)), (3, .int (y3)), (4, .int (y4)), (5, .int (y5))] → (∀ (H : Heap) (locs : List Loc) (ls : Array Slot), zc_W g h H locs → lv_has ls 7 [(0, va_rf ((some q))), (1, .int (y1)), (2, .int (y2)), (3, .int (y3)), (4, .int (w))] → W p l e zr_X10_score s m [va_rf ((some q)), .int (x1), .int (x2)].toArray below meth c H locs 0 0 (zc_Q g below zr_X10_score (some (.int (res))) h [va_rf ((some q)), .int (x1), .int (x2)] s) (F0 m 56 ls [])) → W p l e zr_X10_score s m [va_rf ((some q)), .int (x1), .int (x2)].toArray below meth c H locs 0 0 (zc_Q g below zr_X10_score (some (.int (res))) h [va_rf ((some q)), .int (x1), .int (x2)] s) (F0 m 18 ls []) := by
    intro h y1 y2 y3 n
    induction n with
    | zero =>
      intro y4 y5 w H locs ls hf
      cases hf
    | succ n ih =>
      intro y4 y5 w H locs ls hf hw hl  kk
      unfold zf_X10_score_L18 at hf
      refine lv_iload hx hb zd_X10_score_18 (lv_at hl 5 rfl) ?_
      refine lv_iload_n hx hb zd_X10_score_20 rfl (lv_at hl 3 rfl) ?_
      refine lv_icmp_ge (tgt := 56) hx hb zd_X10_score_21 (by decide) (fun c5 => ?_) (fun c5 => ?_)
      · replace hf := zo_t c5 hf
        have hres := Option.some.inj hf; subst hres
        exact kk _ _ _ hw (lv_sub hl [0, 1, 2, 3, 4] rfl)
      · replace hf := zo_f c5 hf
        refine zl_aload_n hx hb zd_X10_score_24 rfl (lv_at hl 0 rfl) ?_
        refine zl_aload_n hx hb zd_X10_score_25 rfl (lv_at hl 0 rfl) ?_
        replace hf := zo_b hf; obtain ⟨v6, ev6, hf⟩ := hf
        obtain ⟨u7, u7e, u7v⟩ := zo_b ev6
        obtain rfl := zv_i_e u7v
        refine zw_get S hK hw zk_10 (k := 34) (by decide) rfl zm_1122 (Or.inl rfl) u7e zd_X10_score_26 ?_
        refine zl_aload_n hx hb zd_X10_score_29 rfl (lv_at hl 0 rfl) ?_
        replace hf := zo_b hf; obtain ⟨v8, ev8, hf⟩ := hf
        obtain ⟨u9, u9e, u9v⟩ := zo_b ev8
        obtain rfl := zv_i_e u9v
        refine zw_get S hK hw zk_10 (k := 35) (by decide) rfl zm_1123 (Or.inl rfl) u9e zd_X10_score_30 ?_
        refine lv_iload hx hb zd_X10_score_33 (lv_at hl 5 rfl) ?_
        refine lv_iadd hx hb zd_X10_score_35 ?_
        refine lv_iload_n hx hb zd_X10_score_36 rfl (lv_at hl 1 rfl) ?_
        refine lv_iload_n hx hb zd_X10_score_37 rfl (lv_at hl 2 rfl) ?_
        refine lv_iload hx hb zd_X10_score_38 (lv_at hl 5 rfl) ?_
        refine lv_iadd hx hb zd_X10_score_40 ?_
        replace hf := zo_b hf; obtain ⟨r10, er10, hf⟩ := hf
        refine zw_callV (n := 4) (ci := 10) (q := zc_cl[10]) (As := [.int (v6), .int ((v8 + y5)), .int (y1), .int ((y2 + y5))]) (rest := []) S hK hw (zt_X10_isAlike l g h q v6 (v8 + y5) y1 (y2 + y5) _ er10) zm_1301 zm_1303 zm_36 zq_X10_isAlike zm_79 (by decide +kernel) ⟨Nat.le_of_ble_eq_true rfl, Nat.le_of_ble_eq_true rfl⟩ rfl rfl rfl (zi_X10_isAlike er10) hl.1 rfl (by simp [zv_cat, zv_ci, zv_cj]) zd_X10_score_41 ⟨(Nat.le_refl 0), (Nat.le_refl 0)⟩ (fun H locs hw => ?_)
        replace hw : zc_W g h H locs := hw
        have k50h : ∀ (y50_4 : Int32) (H : Heap) (locs : List Loc) (ls : Array Slot), (
            zf_X10_score_L18 h q y1 y2 y3 n y50_4 (y5 + 1)
            ) = some w → zc_W g h H locs → lv_has ls 7 [(0, va_rf ((some q))), (1, .int (y1)), (2, .int (y2)), (3, .int (y3)), (4, .int (y50_4)), (5, .int (y5))] → W p l e zr_X10_score s m [va_rf ((some q)), .int (x1), .int (x2)].toArray below meth c H locs (0 + 0) (0 + 0) (zc_Q g below zr_X10_score (some (.int (res))) h [va_rf ((some q)), .int (x1), .int (x2)] s) (F0 m 50 ls []) := by
          intro y50_4 H locs ls hf hw hl
          refine lv_iinc (i := 5) (v := (y5 + 1)) (lv' := [(5, .int ((y5 + 1))), (0, va_rf ((some q))), (1, .int (y1)), (2, .int (y2)), (3, .int (y3)), (4, .int (y50_4))]) hx hb zd_X10_score_50 hl (k := 5) rfl (congrArg (_ + ·) (by decide)) (by decide) rfl (fun ls hl => ?_)
          refine lv_goto (tgt := 18) hx hb zd_X10_score_53 (by decide) ?_
          exact ih y50_4 (y5 + 1) _ _ _ _ hf hw (lv_sub hl [1, 2, 3, 4, 5, 0] rfl) kk
        refine lv_if_eq (tgt := 50) hx hb zd_X10_score_44 (by decide) (fun c11 => ?_) (fun c11 => ?_)
        · replace hf := zo_t c11 hf
          exact k50h y4 _ _ _ hf hw (lv_sub hl [0, 1, 2, 3, 4, 5] rfl)
        · replace hf := zo_f c11 hf
          refine lv_iinc (i := 4) (v := (y4 + 3)) (lv' := [(4, .int ((y4 + 3))), (0, va_rf ((some q))), (1, .int (y1)), (2, .int (y2)), (3, .int (y3)), (5, .int (y5))]) hx hb zd_X10_score_47 hl (k := 4) rfl (congrArg (_ + ·) (by decide)) (by decide) rfl (fun ls hl => ?_)
          exact k50h (y4 + 3) _ _ _ hf hw (lv_sub hl [1, 2, 3, 4, 0, 5] rfl)
  unfold zf_X10_score at hf
  obtain ⟨-, hf⟩ := zo_n hf
  refine zl_aload_n hx hb zd_X10_score_0 rfl (lv_at hl 0 rfl) ?_
  replace hf := zo_b hf; obtain ⟨v1, ev1, hf⟩ := hf
  obtain ⟨u2, u2e, u2v⟩ := zo_b ev1
  obtain rfl := zv_i_e u2v
  refine zw_get S hK hw zk_10 (k := 36) (by decide) rfl zm_1124 (Or.inl rfl) u2e zd_X10_score_1 ?_
  refine zl_aload_n hx hb zd_X10_score_4 rfl (lv_at hl 0 rfl) ?_
  replace hf := zo_b hf; obtain ⟨v3, ev3, hf⟩ := hf
  obtain ⟨u4, u4e, u4v⟩ := zo_b ev3
  obtain rfl := zv_i_e u4v
  refine zw_get S hK hw zk_10 (k := 35) (by decide) rfl zm_1123 (Or.inl rfl) u4e zd_X10_score_5 ?_
  refine lv_isub hx hb zd_X10_score_8 ?_
  refine lv_iconst (v := 1) hx hb zd_X10_score_9 (by decide) ?_
  refine lv_iadd hx hb zd_X10_score_10 ?_
  refine lv_istore_n (i := 3) (lv' := [(3, .int (((v1 - v3) + 1))), (0, va_rf ((some q))), (1, .int (x1)), (2, .int (x2))]) hx hb zd_X10_score_11 rfl hl (by decide) rfl (fun ls hl => ?_)
  refine lv_iconst (v := 0) hx hb zd_X10_score_12 (by decide) ?_
  refine lv_istore (i := 4) (lv' := [(4, .int (0)), (3, .int (((v1 - v3) + 1))), (0, va_rf ((some q))), (1, .int (x1)), (2, .int (x2))]) hx hb zd_X10_score_13 hl (by decide) rfl (fun ls hl => ?_)
  refine lv_iconst (v := 0) hx hb zd_X10_score_15 (by decide) ?_
  refine lv_istore (i := 5) (lv' := [(5, .int (0)), (4, .int (0)), (3, .int (((v1 - v3) + 1))), (0, va_rf ((some q))), (1, .int (x1)), (2, .int (x2))]) hx hb zd_X10_score_16 hl (by decide) rfl (fun ls hl => ?_)
  replace hf := zo_b hf; obtain ⟨w12, w12e, hf⟩ := hf
  refine L18 h x1 x2 ((v1 - v3) + 1) 2000 0 0 _ _ _ _ w12e hw (lv_sub hl [3, 4, 5, 2, 1, 0] rfl) (fun H locs ls hw hl => ?_)
  refine zl_aload_n hx hb zd_X10_score_56 rfl (lv_at hl 0 rfl) ?_
  replace hf := zo_b hf; obtain ⟨v13, ev13, hf⟩ := hf
  obtain ⟨u14, u14e, u14v⟩ := zo_b ev13
  obtain rfl := zv_i_e u14v
  refine zw_get S hK hw zk_10 (k := 35) (by decide) rfl zm_1123 (Or.inl rfl) u14e zd_X10_score_57 ?_
  have k68h : ∀ (s68_0 : Int32) (H : Heap) (locs : List Loc) (ls : Array Slot), (
      let k81 := fun (s81_0 : Int32) (s81_1 : Int32) =>
        let k113 := fun (y113_4 : Int32) =>
          (zf_gi h q 10 36).bind fun v18 =>
          (zf_gr h q 10 2).bind fun v20 =>
          (zf_gi h q 10 34).bind fun v22 =>
          v20.bind fun a24 =>
          (zf_ai h a24 0 v22).bind fun v25 =>
          let k136 := fun (s136_0 : Int32) =>
            (zf_gr h q 10 2).bind fun v27 =>
            v27.bind fun a29 =>
            (zf_ai h a29 0 x1).bind fun v30 =>
            let k157 := fun (s157_0 : Int32) (s157_1 : Int32) =>
              if s157_1 = s157_0 then
                let k186 := fun (_ : Unit) =>
                  some (y113_4 + 2)
                if s136_0 = 0 then
                  (zf_gi h q 10 34).bind fun v34 =>
                  (zf_gi h q 10 36).bind fun v36 =>
                  (zf_X10_isAlike h q v34 (v36 + 1) x1 (x2 + ((v1 - v3) + 1))).bind fun r38 =>
                  if r38 = 0 then
                    some y113_4
                  else
                  k186 ()
                else
                k186 ()
              else
              some y113_4
            if (x2 + ((v1 - v3) + 1)) = v30 then
              k157 1 s136_0
            else
            k157 0 s136_0
          if v18 = (v25 - 1) then
            k136 1
          else
          k136 0
        if s81_1 = s81_0 then
          let k110 := fun (_ : Unit) =>
            k113 (w12 + 2)
          if s68_0 = 0 then
            (zf_gi h q 10 34).bind fun v41 =>
            (zf_gi h q 10 35).bind fun v43 =>
            (zf_X10_isAlike h q v41 (v43 - 1) x1 (x2 - 1)).bind fun r45 =>
            if r45 = 0 then
              k113 w12
            else
            k110 ()
          else
          k110 ()
        else
        k113 w12
      if x2 = 0 then
        k81 1 s68_0
      else
      k81 0 s68_0
      ) = some res → zc_W g h H locs → lv_has ls 7 [(0, va_rf ((some q))), (1, .int (x1)), (2, .int (x2)), (3, .int (((v1 - v3) + 1))), (4, .int (w12))] → W p l e zr_X10_score s m [va_rf ((some q)), .int (x1), .int (x2)].toArray below meth c H locs 0 0 (zc_Q g below zr_X10_score (some (.int (res))) h [va_rf ((some q)), .int (x1), .int (x2)] s) (F0 m 68 ls [.int (s68_0)]) := by
    intro s68_0 H locs ls hf hw hl
    refine lv_istore (i := 5) (lv' := [(5, .int (s68_0)), (0, va_rf ((some q))), (1, .int (x1)), (2, .int (x2)), (3, .int (((v1 - v3) + 1))), (4, .int (w12))]) hx hb zd_X10_score_68 hl (by decide) rfl (fun ls hl => ?_)
    refine lv_iload hx hb zd_X10_score_70 (lv_at hl 0 rfl) ?_
    refine lv_iload_n hx hb zd_X10_score_72 rfl (lv_at hl 3 rfl) ?_
    have k81h : ∀ (s81_0 : Int32) (s81_1 : Int32) (H : Heap) (locs : List Loc) (ls : Array Slot), (
        let k113 := fun (y113_4 : Int32) =>
          (zf_gi h q 10 36).bind fun v18 =>
          (zf_gr h q 10 2).bind fun v20 =>
          (zf_gi h q 10 34).bind fun v22 =>
          v20.bind fun a24 =>
          (zf_ai h a24 0 v22).bind fun v25 =>
          let k136 := fun (s136_0 : Int32) =>
            (zf_gr h q 10 2).bind fun v27 =>
            v27.bind fun a29 =>
            (zf_ai h a29 0 x1).bind fun v30 =>
            let k157 := fun (s157_0 : Int32) (s157_1 : Int32) =>
              if s157_1 = s157_0 then
                let k186 := fun (_ : Unit) =>
                  some (y113_4 + 2)
                if s136_0 = 0 then
                  (zf_gi h q 10 34).bind fun v34 =>
                  (zf_gi h q 10 36).bind fun v36 =>
                  (zf_X10_isAlike h q v34 (v36 + 1) x1 (x2 + ((v1 - v3) + 1))).bind fun r38 =>
                  if r38 = 0 then
                    some y113_4
                  else
                  k186 ()
                else
                k186 ()
              else
              some y113_4
            if (x2 + ((v1 - v3) + 1)) = v30 then
              k157 1 s136_0
            else
            k157 0 s136_0
          if v18 = (v25 - 1) then
            k136 1
          else
          k136 0
        if s81_1 = s81_0 then
          let k110 := fun (_ : Unit) =>
            k113 (w12 + 2)
          if s68_0 = 0 then
            (zf_gi h q 10 34).bind fun v41 =>
            (zf_gi h q 10 35).bind fun v43 =>
            (zf_X10_isAlike h q v41 (v43 - 1) x1 (x2 - 1)).bind fun r45 =>
            if r45 = 0 then
              k113 w12
            else
            k110 ()
          else
          k110 ()
        else
        k113 w12
        ) = some res → zc_W g h H locs → lv_has ls 7 [(0, va_rf ((some q))), (1, .int (x1)), (2, .int (x2)), (3, .int (((v1 - v3) + 1))), (4, .int (w12)), (5, .int (s68_0))] → W p l e zr_X10_score s m [va_rf ((some q)), .int (x1), .int (x2)].toArray below meth c H locs 0 0 (zc_Q g below zr_X10_score (some (.int (res))) h [va_rf ((some q)), .int (x1), .int (x2)] s) (F0 m 81 ls [.int (s81_0), .int (s81_1)]) := by
      intro s81_0 s81_1 H locs ls hf hw hl
      have k113h : ∀ (y113_4 : Int32) (H : Heap) (locs : List Loc) (ls : Array Slot), (
          (zf_gi h q 10 36).bind fun v18 =>
          (zf_gr h q 10 2).bind fun v20 =>
          (zf_gi h q 10 34).bind fun v22 =>
          v20.bind fun a24 =>
          (zf_ai h a24 0 v22).bind fun v25 =>
          let k136 := fun (s136_0 : Int32) =>
            (zf_gr h q 10 2).bind fun v27 =>
            v27.bind fun a29 =>
            (zf_ai h a29 0 x1).bind fun v30 =>
            let k157 := fun (s157_0 : Int32) (s157_1 : Int32) =>
              if s157_1 = s157_0 then
                let k186 := fun (_ : Unit) =>
                  some (y113_4 + 2)
                if s136_0 = 0 then
                  (zf_gi h q 10 34).bind fun v34 =>
                  (zf_gi h q 10 36).bind fun v36 =>
                  (zf_X10_isAlike h q v34 (v36 + 1) x1 (x2 + ((v1 - v3) + 1))).bind fun r38 =>
                  if r38 = 0 then
                    some y113_4
                  else
                  k186 ()
                else
                k186 ()
              else
              some y113_4
            if (x2 + ((v1 - v3) + 1)) = v30 then
              k157 1 s136_0
            else
            k157 0 s136_0
          if v18 = (v25 - 1) then
            k136 1
          else
          k136 0
          ) = some res → zc_W g h H locs → lv_has ls 7 [(0, va_rf ((some q))), (1, .int (x1)), (2, .int (x2)), (3, .int (((v1 - v3) + 1))), (4, .int (y113_4))] → W p l e zr_X10_score s m [va_rf ((some q)), .int (x1), .int (x2)].toArray below meth c H locs 0 0 (zc_Q g below zr_X10_score (some (.int (res))) h [va_rf ((some q)), .int (x1), .int (x2)] s) (F0 m 113 ls []) := by
        intro y113_4 H locs ls hf hw hl
        refine zl_aload_n hx hb zd_X10_score_113 rfl (lv_at hl 0 rfl) ?_
        replace hf := zo_b hf; obtain ⟨v18, ev18, hf⟩ := hf
        obtain ⟨u19, u19e, u19v⟩ := zo_b ev18
        obtain rfl := zv_i_e u19v
        refine zw_get S hK hw zk_10 (k := 36) (by decide) rfl zm_1124 (Or.inl rfl) u19e zd_X10_score_114 ?_
        refine zl_aload_n hx hb zd_X10_score_117 rfl (lv_at hl 0 rfl) ?_
        replace hf := zo_b hf; obtain ⟨v20, ev20, hf⟩ := hf
        obtain ⟨u21, u21e, u21v⟩ := zo_b ev20
        obtain rfl := zv_r_e u21v
        refine zw_get S hK hw zk_10 (k := 2) (by decide) rfl zm_1090 (Or.inl rfl) u21e zd_X10_score_118 ?_
        refine zl_aload_n hx hb zd_X10_score_121 rfl (lv_at hl 0 rfl) ?_
        replace hf := zo_b hf; obtain ⟨v22, ev22, hf⟩ := hf
        obtain ⟨u23, u23e, u23v⟩ := zo_b ev22
        obtain rfl := zv_i_e u23v
        refine zw_get S hK hw zk_10 (k := 34) (by decide) rfl zm_1122 (Or.inl rfl) u23e zd_X10_score_122 ?_
        replace hf := zo_b hf; obtain ⟨a24, na24, hf⟩ := hf
        refine W.eq (g2 := F0 m 125 ls [.int (v22), va_rf ((some a24)), .int (v18)]) (by rw [na24] <;> rfl) ?_
        replace hf := zo_b hf; obtain ⟨v25, ev25, hf⟩ := hf
        refine zw_iald S hK hw ev25 zd_X10_score_125 ?_
        refine lv_iconst (v := 1) hx hb zd_X10_score_126 (by decide) ?_
        refine lv_isub hx hb zd_X10_score_127 ?_
        have k136h : ∀ (s136_0 : Int32) (H : Heap) (locs : List Loc) (ls : Array Slot), (
            (zf_gr h q 10 2).bind fun v27 =>
            v27.bind fun a29 =>
            (zf_ai h a29 0 x1).bind fun v30 =>
            let k157 := fun (s157_0 : Int32) (s157_1 : Int32) =>
              if s157_1 = s157_0 then
                let k186 := fun (_ : Unit) =>
                  some (y113_4 + 2)
                if s136_0 = 0 then
                  (zf_gi h q 10 34).bind fun v34 =>
                  (zf_gi h q 10 36).bind fun v36 =>
                  (zf_X10_isAlike h q v34 (v36 + 1) x1 (x2 + ((v1 - v3) + 1))).bind fun r38 =>
                  if r38 = 0 then
                    some y113_4
                  else
                  k186 ()
                else
                k186 ()
              else
              some y113_4
            if (x2 + ((v1 - v3) + 1)) = v30 then
              k157 1 s136_0
            else
            k157 0 s136_0
            ) = some res → zc_W g h H locs → lv_has ls 7 [(0, va_rf ((some q))), (1, .int (x1)), (2, .int (x2)), (3, .int (((v1 - v3) + 1))), (4, .int (y113_4))] → W p l e zr_X10_score s m [va_rf ((some q)), .int (x1), .int (x2)].toArray below meth c H locs 0 0 (zc_Q g below zr_X10_score (some (.int (res))) h [va_rf ((some q)), .int (x1), .int (x2)] s) (F0 m 136 ls [.int (s136_0)]) := by
          intro s136_0 H locs ls hf hw hl
          refine lv_istore (i := 6) (lv' := [(6, .int (s136_0)), (0, va_rf ((some q))), (1, .int (x1)), (2, .int (x2)), (3, .int (((v1 - v3) + 1))), (4, .int (y113_4))]) hx hb zd_X10_score_136 hl (by decide) rfl (fun ls hl => ?_)
          refine lv_iload hx hb zd_X10_score_138 (lv_at hl 0 rfl) ?_
          refine lv_iload_n hx hb zd_X10_score_140 rfl (lv_at hl 3 rfl) ?_
          refine lv_iload_n hx hb zd_X10_score_141 rfl (lv_at hl 4 rfl) ?_
          refine lv_iadd hx hb zd_X10_score_142 ?_
          refine zl_aload_n hx hb zd_X10_score_143 rfl (lv_at hl 1 rfl) ?_
          replace hf := zo_b hf; obtain ⟨v27, ev27, hf⟩ := hf
          obtain ⟨u28, u28e, u28v⟩ := zo_b ev27
          obtain rfl := zv_r_e u28v
          refine zw_get S hK hw zk_10 (k := 2) (by decide) rfl zm_1090 (Or.inl rfl) u28e zd_X10_score_144 ?_
          refine lv_iload_n hx hb zd_X10_score_147 rfl (lv_at hl 2 rfl) ?_
          replace hf := zo_b hf; obtain ⟨a29, na29, hf⟩ := hf
          refine W.eq (g2 := F0 m 148 ls [.int (x1), va_rf ((some a29)), .int ((x2 + ((v1 - v3) + 1))), .int (s136_0)]) (by rw [na29] <;> rfl) ?_
          replace hf := zo_b hf; obtain ⟨v30, ev30, hf⟩ := hf
          refine zw_iald S hK hw ev30 zd_X10_score_148 ?_
          have k157h : ∀ (s157_0 : Int32) (s157_1 : Int32) (H : Heap) (locs : List Loc) (ls : Array Slot), (
              if s157_1 = s157_0 then
                let k186 := fun (_ : Unit) =>
                  some (y113_4 + 2)
                if s136_0 = 0 then
                  (zf_gi h q 10 34).bind fun v34 =>
                  (zf_gi h q 10 36).bind fun v36 =>
                  (zf_X10_isAlike h q v34 (v36 + 1) x1 (x2 + ((v1 - v3) + 1))).bind fun r38 =>
                  if r38 = 0 then
                    some y113_4
                  else
                  k186 ()
                else
                k186 ()
              else
              some y113_4
              ) = some res → zc_W g h H locs → lv_has ls 7 [(0, va_rf ((some q))), (1, .int (x1)), (2, .int (x2)), (3, .int (((v1 - v3) + 1))), (4, .int (y113_4)), (6, .int (s136_0))] → W p l e zr_X10_score s m [va_rf ((some q)), .int (x1), .int (x2)].toArray below meth c H locs 0 0 (zc_Q g below zr_X10_score (some (.int (res))) h [va_rf ((some q)), .int (x1), .int (x2)] s) (F0 m 157 ls [.int (s157_0), .int (s157_1)]) := by
            intro s157_0 s157_1 H locs ls hf hw hl
            refine lv_icmp_ne (tgt := 189) hx hb zd_X10_score_157 (by decide) (fun c32 => ?_) (fun c32 => ?_)
            · replace hf := zo_f c32 hf
              refine lv_iload hx hb zd_X10_score_189 (lv_at hl 4 rfl) ?_
              have hres := Option.some.inj hf; subst hres
              exact zw_iret (v := y113_4) (ty := .int) hx hb hr hlk rfl hw zd_X10_score_191 (Nat.le_refl 0) (Nat.le_refl 0)
            · replace hf := zo_t c32 hf
              refine lv_iload hx hb zd_X10_score_160 (lv_at hl 5 rfl) ?_
              have k186h : ∀ (_ : Unit) (H : Heap) (locs : List Loc) (ls : Array Slot), (
                  some (y113_4 + 2)
                  ) = some res → zc_W g h H locs → lv_has ls 7 [(4, .int (y113_4))] → W p l e zr_X10_score s m [va_rf ((some q)), .int (x1), .int (x2)].toArray below meth c H locs 0 0 (zc_Q g below zr_X10_score (some (.int (res))) h [va_rf ((some q)), .int (x1), .int (x2)] s) (F0 m 186 ls []) := by
                intro _ H locs ls hf hw hl
                refine lv_iinc (i := 4) (v := (y113_4 + 2)) (lv' := [(4, .int ((y113_4 + 2)))]) hx hb zd_X10_score_186 hl (k := 0) rfl (congrArg (_ + ·) (by decide)) (by decide) rfl (fun ls hl => ?_)
                refine lv_iload hx hb zd_X10_score_189 (lv_at hl 0 rfl) ?_
                have hres := Option.some.inj hf; subst hres
                exact zw_iret (v := (y113_4 + 2)) (ty := .int) hx hb hr hlk rfl hw zd_X10_score_191 (Nat.le_refl 0) (Nat.le_refl 0)
              refine lv_if_ne (tgt := 186) hx hb zd_X10_score_162 (by decide) (fun c33 => ?_) (fun c33 => ?_)
              · replace hf := zo_f c33 hf
                exact k186h () _ _ _ hf hw (lv_sub hl [4] rfl)
              · replace hf := zo_t c33 hf
                refine zl_aload_n hx hb zd_X10_score_165 rfl (lv_at hl 0 rfl) ?_
                refine zl_aload_n hx hb zd_X10_score_166 rfl (lv_at hl 0 rfl) ?_
                replace hf := zo_b hf; obtain ⟨v34, ev34, hf⟩ := hf
                obtain ⟨u35, u35e, u35v⟩ := zo_b ev34
                obtain rfl := zv_i_e u35v
                refine zw_get S hK hw zk_10 (k := 34) (by decide) rfl zm_1122 (Or.inl rfl) u35e zd_X10_score_167 ?_
                refine zl_aload_n hx hb zd_X10_score_170 rfl (lv_at hl 0 rfl) ?_
                replace hf := zo_b hf; obtain ⟨v36, ev36, hf⟩ := hf
                obtain ⟨u37, u37e, u37v⟩ := zo_b ev36
                obtain rfl := zv_i_e u37v
                refine zw_get S hK hw zk_10 (k := 36) (by decide) rfl zm_1124 (Or.inl rfl) u37e zd_X10_score_171 ?_
                refine lv_iconst (v := 1) hx hb zd_X10_score_174 (by decide) ?_
                refine lv_iadd hx hb zd_X10_score_175 ?_
                refine lv_iload_n hx hb zd_X10_score_176 rfl (lv_at hl 1 rfl) ?_
                refine lv_iload_n hx hb zd_X10_score_177 rfl (lv_at hl 2 rfl) ?_
                refine lv_iload_n hx hb zd_X10_score_178 rfl (lv_at hl 3 rfl) ?_
                refine lv_iadd hx hb zd_X10_score_179 ?_
                replace hf := zo_b hf; obtain ⟨r38, er38, hf⟩ := hf
                refine zw_callV (n := 4) (ci := 10) (q := zc_cl[10]) (As := [.int (v34), .int ((v36 + 1)), .int (x1), .int ((x2 + ((v1 - v3) + 1)))]) (rest := []) S hK hw (zt_X10_isAlike l g h q v34 (v36 + 1) x1 (x2 + ((v1 - v3) + 1)) _ er38) zm_1301 zm_1303 zm_36 zq_X10_isAlike zm_79 (by decide +kernel) ⟨Nat.le_of_ble_eq_true rfl, Nat.le_of_ble_eq_true rfl⟩ rfl rfl rfl (zi_X10_isAlike er38) hl.1 rfl (by simp [zv_cat, zv_ci, zv_cj]) zd_X10_score_180 ⟨(Nat.le_refl 0), (Nat.le_refl 0)⟩ (fun H locs hw => ?_)
                replace hw : zc_W g h H locs := hw
                refine lv_if_eq (tgt := 189) hx hb zd_X10_score_183 (by decide) (fun c39 => ?_) (fun c39 => ?_)
                · replace hf := zo_t c39 hf
                  refine lv_iload hx hb zd_X10_score_189 (lv_at hl 4 rfl) ?_
                  have hres := Option.some.inj hf; subst hres
                  exact zw_iret (v := y113_4) (ty := .int) hx hb hr hlk rfl hw zd_X10_score_191 (Nat.le_refl 0) (Nat.le_refl 0)
                · replace hf := zo_f c39 hf
                  exact k186h () _ _ _ hf hw (lv_sub hl [4] rfl)
          refine lv_icmp_ne (tgt := 156) hx hb zd_X10_score_149 (by decide) (fun c31 => ?_) (fun c31 => ?_)
          · replace hf := zo_f c31 hf
            refine lv_iconst (v := 0) hx hb zd_X10_score_156 (by decide) ?_
            exact k157h 0 s136_0 _ _ _ hf hw (lv_sub hl [1, 2, 3, 4, 5, 0] rfl)
          · replace hf := zo_t c31 hf
            refine lv_iconst (v := 1) hx hb zd_X10_score_152 (by decide) ?_
            refine lv_goto (tgt := 157) hx hb zd_X10_score_153 (by decide) ?_
            exact k157h 1 s136_0 _ _ _ hf hw (lv_sub hl [1, 2, 3, 4, 5, 0] rfl)
        refine lv_icmp_ne (tgt := 135) hx hb zd_X10_score_128 (by decide) (fun c26 => ?_) (fun c26 => ?_)
        · replace hf := zo_f c26 hf
          refine lv_iconst (v := 0) hx hb zd_X10_score_135 (by decide) ?_
          exact k136h 0 _ _ _ hf hw (lv_sub hl [0, 1, 2, 3, 4] rfl)
        · replace hf := zo_t c26 hf
          refine lv_iconst (v := 1) hx hb zd_X10_score_131 (by decide) ?_
          refine lv_goto (tgt := 136) hx hb zd_X10_score_132 (by decide) ?_
          exact k136h 1 _ _ _ hf hw (lv_sub hl [0, 1, 2, 3, 4] rfl)
      refine lv_icmp_ne (tgt := 113) hx hb zd_X10_score_81 (by decide) (fun c17 => ?_) (fun c17 => ?_)
      · replace hf := zo_f c17 hf
        exact k113h w12 _ _ _ hf hw (lv_sub hl [0, 1, 2, 3, 4] rfl)
      · replace hf := zo_t c17 hf
        refine lv_iload hx hb zd_X10_score_84 (lv_at hl 5 rfl) ?_
        have k110h : ∀ (_ : Unit) (H : Heap) (locs : List Loc) (ls : Array Slot), (
            let k113 := fun (y113_4 : Int32) =>
              (zf_gi h q 10 36).bind fun v18 =>
              (zf_gr h q 10 2).bind fun v20 =>
              (zf_gi h q 10 34).bind fun v22 =>
              v20.bind fun a24 =>
              (zf_ai h a24 0 v22).bind fun v25 =>
              let k136 := fun (s136_0 : Int32) =>
                (zf_gr h q 10 2).bind fun v27 =>
                v27.bind fun a29 =>
                (zf_ai h a29 0 x1).bind fun v30 =>
                let k157 := fun (s157_0 : Int32) (s157_1 : Int32) =>
                  if s157_1 = s157_0 then
                    let k186 := fun (_ : Unit) =>
                      some (y113_4 + 2)
                    if s136_0 = 0 then
                      (zf_gi h q 10 34).bind fun v34 =>
                      (zf_gi h q 10 36).bind fun v36 =>
                      (zf_X10_isAlike h q v34 (v36 + 1) x1 (x2 + ((v1 - v3) + 1))).bind fun r38 =>
                      if r38 = 0 then
                        some y113_4
                      else
                      k186 ()
                    else
                    k186 ()
                  else
                  some y113_4
                if (x2 + ((v1 - v3) + 1)) = v30 then
                  k157 1 s136_0
                else
                k157 0 s136_0
              if v18 = (v25 - 1) then
                k136 1
              else
              k136 0
            k113 (w12 + 2)
            ) = some res → zc_W g h H locs → lv_has ls 7 [(0, va_rf ((some q))), (1, .int (x1)), (2, .int (x2)), (3, .int (((v1 - v3) + 1))), (4, .int (w12))] → W p l e zr_X10_score s m [va_rf ((some q)), .int (x1), .int (x2)].toArray below meth c H locs 0 0 (zc_Q g below zr_X10_score (some (.int (res))) h [va_rf ((some q)), .int (x1), .int (x2)] s) (F0 m 110 ls []) := by
          intro _ H locs ls hf hw hl
          refine lv_iinc (i := 4) (v := (w12 + 2)) (lv' := [(4, .int ((w12 + 2))), (0, va_rf ((some q))), (1, .int (x1)), (2, .int (x2)), (3, .int (((v1 - v3) + 1)))]) hx hb zd_X10_score_110 hl (k := 4) rfl (congrArg (_ + ·) (by decide)) (by decide) rfl (fun ls hl => ?_)
          exact k113h (w12 + 2) _ _ _ hf hw (lv_sub hl [1, 2, 3, 4, 0] rfl)
        refine lv_if_ne (tgt := 110) hx hb zd_X10_score_86 (by decide) (fun c40 => ?_) (fun c40 => ?_)
        · replace hf := zo_f c40 hf
          exact k110h () _ _ _ hf hw (lv_sub hl [0, 1, 2, 3, 4] rfl)
        · replace hf := zo_t c40 hf
          refine zl_aload_n hx hb zd_X10_score_89 rfl (lv_at hl 0 rfl) ?_
          refine zl_aload_n hx hb zd_X10_score_90 rfl (lv_at hl 0 rfl) ?_
          replace hf := zo_b hf; obtain ⟨v41, ev41, hf⟩ := hf
          obtain ⟨u42, u42e, u42v⟩ := zo_b ev41
          obtain rfl := zv_i_e u42v
          refine zw_get S hK hw zk_10 (k := 34) (by decide) rfl zm_1122 (Or.inl rfl) u42e zd_X10_score_91 ?_
          refine zl_aload_n hx hb zd_X10_score_94 rfl (lv_at hl 0 rfl) ?_
          replace hf := zo_b hf; obtain ⟨v43, ev43, hf⟩ := hf
          obtain ⟨u44, u44e, u44v⟩ := zo_b ev43
          obtain rfl := zv_i_e u44v
          refine zw_get S hK hw zk_10 (k := 35) (by decide) rfl zm_1123 (Or.inl rfl) u44e zd_X10_score_95 ?_
          refine lv_iconst (v := 1) hx hb zd_X10_score_98 (by decide) ?_
          refine lv_isub hx hb zd_X10_score_99 ?_
          refine lv_iload_n hx hb zd_X10_score_100 rfl (lv_at hl 1 rfl) ?_
          refine lv_iload_n hx hb zd_X10_score_101 rfl (lv_at hl 2 rfl) ?_
          refine lv_iconst (v := 1) hx hb zd_X10_score_102 (by decide) ?_
          refine lv_isub hx hb zd_X10_score_103 ?_
          replace hf := zo_b hf; obtain ⟨r45, er45, hf⟩ := hf
          refine zw_callV (n := 4) (ci := 10) (q := zc_cl[10]) (As := [.int (v41), .int ((v43 - 1)), .int (x1), .int ((x2 - 1))]) (rest := []) S hK hw (zt_X10_isAlike l g h q v41 (v43 - 1) x1 (x2 - 1) _ er45) zm_1301 zm_1303 zm_36 zq_X10_isAlike zm_79 (by decide +kernel) ⟨Nat.le_of_ble_eq_true rfl, Nat.le_of_ble_eq_true rfl⟩ rfl rfl rfl (zi_X10_isAlike er45) hl.1 rfl (by simp [zv_cat, zv_ci, zv_cj]) zd_X10_score_104 ⟨(Nat.le_refl 0), (Nat.le_refl 0)⟩ (fun H locs hw => ?_)
          replace hw : zc_W g h H locs := hw
          refine lv_if_eq (tgt := 113) hx hb zd_X10_score_107 (by decide) (fun c46 => ?_) (fun c46 => ?_)
          · replace hf := zo_t c46 hf
            exact k113h w12 _ _ _ hf hw (lv_sub hl [0, 1, 2, 3, 4] rfl)
          · replace hf := zo_f c46 hf
            exact k110h () _ _ _ hf hw (lv_sub hl [0, 1, 2, 3, 4] rfl)
    refine lv_if_ne (tgt := 80) hx hb zd_X10_score_73 (by decide) (fun c16 => ?_) (fun c16 => ?_)
    · replace hf := zo_f c16 hf
      refine lv_iconst (v := 0) hx hb zd_X10_score_80 (by decide) ?_
      exact k81h 0 s68_0 _ _ _ hf hw (lv_sub hl [1, 2, 3, 4, 5, 0] rfl)
    · replace hf := zo_t c16 hf
      refine lv_iconst (v := 1) hx hb zd_X10_score_76 (by decide) ?_
      refine lv_goto (tgt := 81) hx hb zd_X10_score_77 (by decide) ?_
      exact k81h 1 s68_0 _ _ _ hf hw (lv_sub hl [1, 2, 3, 4, 5, 0] rfl)
  refine lv_if_ne (tgt := 67) hx hb zd_X10_score_60 (by decide) (fun c15 => ?_) (fun c15 => ?_)
  · replace hf := zo_f c15 hf
    refine lv_iconst (v := 0) hx hb zd_X10_score_67 (by decide) ?_
    exact k68h 0 _ _ _ hf hw (lv_sub hl [0, 1, 2, 3, 4] rfl)
  · replace hf := zo_t c15 hf
    refine lv_iconst (v := 1) hx hb zd_X10_score_63 (by decide) ?_
    refine lv_goto (tgt := 68) hx hb zd_X10_score_64 (by decide) ?_
    exact k68h 1 _ _ _ hf hw (lv_sub hl [0, 1, 2, 3, 4] rfl)
def zf_X10_placesOn (h : zc_H) (q : Nat) (x1 : Int32) : Option (Int32) :=
  if ¬ zf_is h q 10 = true then none else
  (zf_gr h q 10 2).bind fun v1 =>
  v1.bind fun a3 =>
  (zf_ai h a3 0 x1).bind fun v4 =>
  (zf_gi h q 10 36).bind fun v5 =>
  (zf_gi h q 10 35).bind fun v7 =>
  some (if 0 < (v4 - (v5 - v7)) then (v4 - (v5 - v7)) else 0)
abbrev zr_X10_placesOn : Room := { frames := 1, cells := 0, slots := 0, locals := 40 }
theorem zi_X10_placesOn {h : zc_H} {q : Nat} {x1 : Int32} {res : Int32} (hf : zf_X10_placesOn h q x1 = some res) : zf_is h q 10 = true := Decidable.not_not.mp (zo_n hf).1
set_option maxHeartbeats 4000000 in
set_option maxRecDepth 20000 in
theorem zt_X10_placesOn (l : Launch) (g : zc_G) (h : zc_H) (q : Nat) (x1 : Int32) (res : Int32) (hf : zf_X10_placesOn h q x1 = some res) : zc_M l g yX10_placesOn cX10_placesOn 2 (some .int) zr_X10_placesOn h [va_rf ((some q)), .int (x1)] h (some (.int (res))) := by
  refine zc_M.of (by decide) (by simp [lg_sl, zv_cat, zv_ci, zv_cj]) ?_
  intro p e s m below meth c ls S hK hw hr hlk hnm hl
  replace S : CallFix p m c cX10_placesOn 2 s [va_rf ((some q)), .int (x1)].toArray (zc_ws yX10_placesOn cX10_placesOn 2 (some .int)) RX10 := S
  have hx := S.1
  have hb := S.2.1
  replace hl : lv_has ls 2 [(0, va_rf ((some q))), (1, .int (x1))] := by simpa [lv_args, zv_cat, zv_ci, zv_cj] using hl
  generalize s.heap = H at hw ⊢
  obtain ⟨locs, hlocs⟩ : ∃ L : List Loc, L = [] := ⟨_, rfl⟩
  rw [← hlocs] at hw ⊢
  unfold zf_X10_placesOn at hf
  obtain ⟨-, hf⟩ := zo_n hf
  refine lv_iconst (v := 0) hx hb zd_X10_placesOn_0 (by decide) ?_
  refine zl_aload_n hx hb zd_X10_placesOn_1 rfl (lv_at hl 0 rfl) ?_
  replace hf := zo_b hf; obtain ⟨v1, ev1, hf⟩ := hf
  obtain ⟨u2, u2e, u2v⟩ := zo_b ev1
  obtain rfl := zv_r_e u2v
  refine zw_get S hK hw zk_10 (k := 2) (by decide) rfl zm_1090 (Or.inl rfl) u2e zd_X10_placesOn_2 ?_
  refine lv_iload_n hx hb zd_X10_placesOn_5 rfl (lv_at hl 1 rfl) ?_
  replace hf := zo_b hf; obtain ⟨a3, na3, hf⟩ := hf
  refine W.eq (g2 := F0 m 6 ls [.int (x1), va_rf ((some a3)), .int (0)]) (by rw [na3] <;> rfl) ?_
  replace hf := zo_b hf; obtain ⟨v4, ev4, hf⟩ := hf
  refine zw_iald S hK hw ev4 zd_X10_placesOn_6 ?_
  refine zl_aload_n hx hb zd_X10_placesOn_7 rfl (lv_at hl 0 rfl) ?_
  replace hf := zo_b hf; obtain ⟨v5, ev5, hf⟩ := hf
  obtain ⟨u6, u6e, u6v⟩ := zo_b ev5
  obtain rfl := zv_i_e u6v
  refine zw_get S hK hw zk_10 (k := 36) (by decide) rfl zm_1124 (Or.inl rfl) u6e zd_X10_placesOn_8 ?_
  refine zl_aload_n hx hb zd_X10_placesOn_11 rfl (lv_at hl 0 rfl) ?_
  replace hf := zo_b hf; obtain ⟨v7, ev7, hf⟩ := hf
  obtain ⟨u8, u8e, u8v⟩ := zo_b ev7
  obtain rfl := zv_i_e u8v
  refine zw_get S hK hw zk_10 (k := 35) (by decide) rfl zm_1123 (Or.inl rfl) u8e zd_X10_placesOn_12 ?_
  refine lv_isub hx hb zd_X10_placesOn_15 ?_
  refine lv_isub hx hb zd_X10_placesOn_16 ?_
  refine va_mmax hx hb (S.2.2.1.trans hl.1.symm) S.2.2.2.1 (S.2.2.2.2 _ (List.mem_cons_of_mem _ zm_1305)) (S.2.2.2.2 _ (List.mem_cons_of_mem _ zm_569)) (S.2.2.2.2 _ (List.mem_cons_of_mem _ zm_85)) (S.2.2.2.2 _ (List.mem_cons_of_mem _ zm_570)) (Nat.le_of_ble_eq_true rfl) (by simp [zv_cat, zv_ci, zv_cj, zr_X10_placesOn]) (Nat.le_refl 0) (Nat.le_refl 0) zd_X10_placesOn_17 ?_
  have hres := Option.some.inj hf; subst hres
  exact zw_iret (v := (if 0 < (v4 - (v5 - v7)) then (v4 - (v5 - v7)) else 0)) (ty := .int) hx hb hr hlk rfl hw zd_X10_placesOn_20 (Nat.le_refl 0) (Nat.le_refl 0)
def zf_X10_looks_L12 (q : Nat) (y1 : Int32) : Nat → zc_H → Int32 → Option (zc_H)
  | 0, _, _ => none
  | n + 1, h, y2 =>
    (zf_X10_placesOn h q y1).bind fun r3 =>
    if r3 ≤ y2 then
      some h
    else
    (zf_X10_score h q y1 y2).bind fun r5 =>
    (zf_gi h q 10 39).bind fun v6 =>
    let k49 := fun (h49j : zc_H) =>
      zf_X10_looks_L12 q y1 n h49j (y2 + 1)
    if v6 < r5 then
      (zf_p h q 10 39 (.int (r5))).bind fun h9 =>
      (zf_p h9 q 10 38 (.int (y2))).bind fun h10 =>
      k49 h10
    else
    k49 h
def zf_X10_looks_L74 (q : Nat) (y1 : Int32) : Nat → zc_H → Int32 → Option (zc_H)
  | 0, _, _ => none
  | n + 1, h, y2 =>
    (zf_X10_placesOn h q y1).bind fun r18 =>
    if r18 ≤ y2 then
      some h
    else
    (zf_gi h q 10 38).bind fun v20 =>
    let k116 := fun (h116j : zc_H) =>
      zf_X10_looks_L74 q y1 n h116j (y2 + 1)
    if y2 = v20 then
      k116 h
    else
    (zf_gi h q 10 39).bind fun v23 =>
    (zf_X10_score h q y1 y2).bind fun r25 =>
    (zf_gr h q 10 7).bind fun v26 =>
    v26.bind fun a28 =>
    (zf_ai h a28 0 2).bind fun v29 =>
    if v29 ≤ (v23 - r25) then
      k116 h
    else
    (zf_p h q 10 40 (.int (0))).bind fun h31 =>
    k116 h31
def zf_X10_looks (h : zc_H) (q : Nat) (x1 : Int32) : Option (zc_H) :=
  if ¬ zf_is h q 10 = true then none else
  (zf_p h q 10 38 (.int ((-1)))).bind fun h1 =>
  (zf_p h1 q 10 39 (.int ((-1)))).bind fun h2 =>
  (zf_X10_looks_L12 q x1 2000 h2 0).bind fun w11 =>
  (zf_gi w11 q 10 38).bind fun v12 =>
  let k69 := fun (s69_0 : Int32) (s69_1 : Option Nat) =>
    s69_1.bind fun a15 =>
    if ¬ (s69_0 = 0 ∨ s69_0 = 1) then none else
    (zf_p w11 a15 10 40 (.int (s69_0))).bind fun h17 =>
    (zf_X10_looks_L74 q x1 2000 h17 0).bind fun w32 =>
    some w32
  if v12 = (-1) then
    k69 0 (some q)
  else
  k69 1 (some q)
abbrev zr_X10_looks : Room := { frames := 2, cells := 0, slots := 0, locals := 61 }
theorem zi_X10_looks {h : zc_H} {q : Nat} {x1 : Int32} {res : zc_H} (hf : zf_X10_looks h q x1 = some res) : zf_is h q 10 = true := Decidable.not_not.mp (zo_n hf).1
set_option maxHeartbeats 4000000 in
set_option maxRecDepth 20000 in
theorem zt_X10_looks (l : Launch) (g : zc_G) (h : zc_H) (q : Nat) (x1 : Int32) (res : zc_H) (hf : zf_X10_looks h q x1 = some res) : zc_M l g yX10_looks cX10_looks 4 none zr_X10_looks h [va_rf ((some q)), .int (x1)] res none := by
  refine zc_M.of (by decide) (by simp [lg_sl, zv_cat, zv_ci, zv_cj]) ?_
  intro p e s m below meth c ls S hK hw hr hlk hnm hl
  replace S : CallFix p m c cX10_looks 4 s [va_rf ((some q)), .int (x1)].toArray (zc_ws yX10_looks cX10_looks 4 none) RX10 := S
  have hx := S.1
  have hb := S.2.1
  replace hl : lv_has ls 4 [(0, va_rf ((some q))), (1, .int (x1))] := by simpa [lv_args, zv_cat, zv_ci, zv_cj] using hl
  generalize s.heap = H at hw ⊢
  obtain ⟨locs, hlocs⟩ : ∃ L : List Loc, L = [] := ⟨_, rfl⟩
  rw [← hlocs] at hw ⊢
  have L12 : ∀ (y1 : Int32) (n : Nat) (h : zc_H) (y2 : Int32) (w : zc_H) (H : Heap) (locs : List Loc) (ls : Array Slot), zf_X10_looks_L12 q y1 n h y2 = some w → zc_W g h H locs → lv_has ls 4 [(0, va_rf ((some q))), (1, .int (y1)), (2, .int (y2))] → (∀ (H : Heap) (locs : List Loc) (ls : Array Slot), zc_W g w H locs → lv_has ls 4 [(0, va_rf ((some q))), (1, .int (y1))] → W p l e zr_X10_looks s m [va_rf ((some q)), .int (x1)].toArray below meth c H locs 0 0 (zc_Q g below zr_X10_looks none res [va_rf ((some q)), .int (x1)] s) (F0 m 55 ls [])) → W p l e zr_X10_looks s m [va_rf ((some q)), .int (x1)].toArray below meth c H locs 0 0 (zc_Q g below zr_X10_looks none res [va_rf ((some q)), .int (x1)] s) (F0 m 12 ls []) := by
    intro y1 n
    induction n with
    | zero =>
      intro h y2 w H locs ls hf
      cases hf
    | succ n ih =>
      intro h y2 w H locs ls hf hw hl  kk
      unfold zf_X10_looks_L12 at hf
      refine lv_iload_n hx hb zd_X10_looks_12 rfl (lv_at hl 2 rfl) ?_
      refine zl_aload_n hx hb zd_X10_looks_13 rfl (lv_at hl 0 rfl) ?_
      refine lv_iload_n hx hb zd_X10_looks_14 rfl (lv_at hl 1 rfl) ?_
      replace hf := zo_b hf; obtain ⟨r3, er3, hf⟩ := hf
      refine zw_callV (n := 1) (ci := 10) (q := zc_cl[10]) (As := [.int (y1)]) (rest := [.int (y2)]) S hK hw (zt_X10_placesOn l g h q y1 _ er3) zm_1428 zm_1430 zm_54 zq_X10_placesOn zm_79 (by decide +kernel) ⟨Nat.le_of_ble_eq_true rfl, Nat.le_of_ble_eq_true rfl⟩ rfl rfl rfl (zi_X10_placesOn er3) hl.1 rfl (by simp [zv_cat, zv_ci, zv_cj]) zd_X10_looks_15 ⟨(Nat.le_refl 0), (Nat.le_refl 0)⟩ (fun H locs hw => ?_)
      replace hw : zc_W g h H locs := hw
      refine lv_icmp_ge (tgt := 55) hx hb zd_X10_looks_18 (by decide) (fun c4 => ?_) (fun c4 => ?_)
      · replace hf := zo_t c4 hf
        have hres := Option.some.inj hf; subst hres
        exact kk _ _ _ hw (lv_sub hl [0, 1] rfl)
      · replace hf := zo_f c4 hf
        refine zl_aload_n hx hb zd_X10_looks_21 rfl (lv_at hl 0 rfl) ?_
        refine lv_iload_n hx hb zd_X10_looks_22 rfl (lv_at hl 1 rfl) ?_
        refine lv_iload_n hx hb zd_X10_looks_23 rfl (lv_at hl 2 rfl) ?_
        replace hf := zo_b hf; obtain ⟨r5, er5, hf⟩ := hf
        refine zw_callV (n := 2) (ci := 10) (q := zc_cl[10]) (As := [.int (y1), .int (y2)]) (rest := []) S hK hw (zt_X10_score l g h q y1 y2 _ er5) zm_1432 zm_1434 zm_55 zq_X10_score zm_79 (by decide +kernel) ⟨Nat.le_of_ble_eq_true rfl, Nat.le_of_ble_eq_true rfl⟩ rfl rfl rfl (zi_X10_score er5) hl.1 rfl (by simp [zv_cat, zv_ci, zv_cj]) zd_X10_looks_24 ⟨(Nat.le_refl 0), (Nat.le_refl 0)⟩ (fun H locs hw => ?_)
        replace hw : zc_W g h H locs := hw
        refine lv_istore_n (i := 3) (lv' := [(3, .int (r5)), (0, va_rf ((some q))), (1, .int (y1)), (2, .int (y2))]) hx hb zd_X10_looks_27 rfl hl (by decide) rfl (fun ls hl => ?_)
        refine lv_iload_n hx hb zd_X10_looks_28 rfl (lv_at hl 0 rfl) ?_
        refine zl_aload_n hx hb zd_X10_looks_29 rfl (lv_at hl 1 rfl) ?_
        replace hf := zo_b hf; obtain ⟨v6, ev6, hf⟩ := hf
        obtain ⟨u7, u7e, u7v⟩ := zo_b ev6
        obtain rfl := zv_i_e u7v
        refine zw_get S hK hw zk_10 (k := 39) (by decide) rfl zm_1127 (Or.inl rfl) u7e zd_X10_looks_30 ?_
        have k49h : ∀ (h49j : zc_H) (H : Heap) (locs : List Loc) (ls : Array Slot), (
            zf_X10_looks_L12 q y1 n h49j (y2 + 1)
            ) = some w → zc_W g h49j H locs → lv_has ls 4 [(0, va_rf ((some q))), (1, .int (y1)), (2, .int (y2))] → W p l e zr_X10_looks s m [va_rf ((some q)), .int (x1)].toArray below meth c H locs ((0 + 0) + 0) ((0 + 0) + 0) (zc_Q g below zr_X10_looks none res [va_rf ((some q)), .int (x1)] s) (F0 m 49 ls []) := by
          intro h49j H locs ls hf hw hl
          refine lv_iinc (i := 2) (v := (y2 + 1)) (lv' := [(2, .int ((y2 + 1))), (0, va_rf ((some q))), (1, .int (y1))]) hx hb zd_X10_looks_49 hl (k := 2) rfl (congrArg (_ + ·) (by decide)) (by decide) rfl (fun ls hl => ?_)
          refine lv_goto (tgt := 12) hx hb zd_X10_looks_52 (by decide) ?_
          exact ih h49j (y2 + 1) _ _ _ _ hf hw (lv_sub hl [1, 2, 0] rfl) kk
        refine lv_icmp_gt (tgt := 39) hx hb zd_X10_looks_33 (by decide) (fun c8 => ?_) (fun c8 => ?_)
        · replace hf := zo_t c8 hf
          refine zl_aload_n hx hb zd_X10_looks_39 rfl (lv_at hl 1 rfl) ?_
          refine lv_iload_n hx hb zd_X10_looks_40 rfl (lv_at hl 0 rfl) ?_
          replace hf := zo_b hf; obtain ⟨h9, eh9, hf⟩ := hf
          refine zw_put S hK hw zk_10 (k := 39) (by decide) rfl zm_1127 (Or.inl rfl) eh9 (ty := .int) (by decide +kernel) rfl rfl zd_X10_looks_41 (fun H locs hw => ?_)
          refine zl_aload_n hx hb zd_X10_looks_44 rfl (lv_at hl 1 rfl) ?_
          refine lv_iload_n hx hb zd_X10_looks_45 rfl (lv_at hl 3 rfl) ?_
          replace hf := zo_b hf; obtain ⟨h10, eh10, hf⟩ := hf
          refine zw_put S hK hw zk_10 (k := 38) (by decide) rfl zm_1126 (Or.inl rfl) eh10 (ty := .int) (by decide +kernel) rfl rfl zd_X10_looks_46 (fun H locs hw => ?_)
          exact k49h h10 _ _ _ hf hw (lv_sub hl [1, 2, 3] rfl)
        · replace hf := zo_f c8 hf
          refine lv_goto (tgt := 49) hx hb zd_X10_looks_36 (by decide) ?_
          exact k49h h _ _ _ hf hw (lv_sub hl [1, 2, 3] rfl)
  have L74 : ∀ (y1 : Int32) (n : Nat) (h : zc_H) (y2 : Int32) (w : zc_H) (H : Heap) (locs : List Loc) (ls : Array Slot), zf_X10_looks_L74 q y1 n h y2 = some w → zc_W g h H locs → lv_has ls 4 [(0, va_rf ((some q))), (1, .int (y1)), (2, .int (y2))] → (∀ (H : Heap) (locs : List Loc) (ls : Array Slot), zc_W g w H locs → lv_has ls 4 [] → W p l e zr_X10_looks s m [va_rf ((some q)), .int (x1)].toArray below meth c H locs 0 0 (zc_Q g below zr_X10_looks none res [va_rf ((some q)), .int (x1)] s) (F0 m 122 ls [])) → W p l e zr_X10_looks s m [va_rf ((some q)), .int (x1)].toArray below meth c H locs 0 0 (zc_Q g below zr_X10_looks none res [va_rf ((some q)), .int (x1)] s) (F0 m 74 ls []) := by
    intro y1 n
    induction n with
    | zero =>
      intro h y2 w H locs ls hf
      cases hf
    | succ n ih =>
      intro h y2 w H locs ls hf hw hl  kk
      unfold zf_X10_looks_L74 at hf
      refine lv_iload_n hx hb zd_X10_looks_74 rfl (lv_at hl 2 rfl) ?_
      refine zl_aload_n hx hb zd_X10_looks_75 rfl (lv_at hl 0 rfl) ?_
      refine lv_iload_n hx hb zd_X10_looks_76 rfl (lv_at hl 1 rfl) ?_
      replace hf := zo_b hf; obtain ⟨r18, er18, hf⟩ := hf
      refine zw_callV (n := 1) (ci := 10) (q := zc_cl[10]) (As := [.int (y1)]) (rest := [.int (y2)]) S hK hw (zt_X10_placesOn l g h q y1 _ er18) zm_1428 zm_1430 zm_54 zq_X10_placesOn zm_79 (by decide +kernel) ⟨Nat.le_of_ble_eq_true rfl, Nat.le_of_ble_eq_true rfl⟩ rfl rfl rfl (zi_X10_placesOn er18) hl.1 rfl (by simp [zv_cat, zv_ci, zv_cj]) zd_X10_looks_77 ⟨(Nat.le_refl 0), (Nat.le_refl 0)⟩ (fun H locs hw => ?_)
      replace hw : zc_W g h H locs := hw
      refine lv_icmp_ge (tgt := 122) hx hb zd_X10_looks_80 (by decide) (fun c19 => ?_) (fun c19 => ?_)
      · replace hf := zo_t c19 hf
        have hres := Option.some.inj hf; subst hres
        exact kk _ _ _ hw (lv_sub hl [] rfl)
      · replace hf := zo_f c19 hf
        refine lv_iload_n hx hb zd_X10_looks_83 rfl (lv_at hl 2 rfl) ?_
        refine zl_aload_n hx hb zd_X10_looks_84 rfl (lv_at hl 0 rfl) ?_
        replace hf := zo_b hf; obtain ⟨v20, ev20, hf⟩ := hf
        obtain ⟨u21, u21e, u21v⟩ := zo_b ev20
        obtain rfl := zv_i_e u21v
        refine zw_get S hK hw zk_10 (k := 38) (by decide) rfl zm_1126 (Or.inl rfl) u21e zd_X10_looks_85 ?_
        have k116h : ∀ (h116j : zc_H) (H : Heap) (locs : List Loc) (ls : Array Slot), (
            zf_X10_looks_L74 q y1 n h116j (y2 + 1)
            ) = some w → zc_W g h116j H locs → lv_has ls 4 [(0, va_rf ((some q))), (1, .int (y1)), (2, .int (y2))] → W p l e zr_X10_looks s m [va_rf ((some q)), .int (x1)].toArray below meth c H locs (0 + 0) (0 + 0) (zc_Q g below zr_X10_looks none res [va_rf ((some q)), .int (x1)] s) (F0 m 116 ls []) := by
          intro h116j H locs ls hf hw hl
          refine lv_iinc (i := 2) (v := (y2 + 1)) (lv' := [(2, .int ((y2 + 1))), (0, va_rf ((some q))), (1, .int (y1))]) hx hb zd_X10_looks_116 hl (k := 2) rfl (congrArg (_ + ·) (by decide)) (by decide) rfl (fun ls hl => ?_)
          refine lv_goto (tgt := 74) hx hb zd_X10_looks_119 (by decide) ?_
          exact ih h116j (y2 + 1) _ _ _ _ hf hw (lv_sub hl [1, 2, 0] rfl) kk
        refine lv_icmp_eq (tgt := 116) hx hb zd_X10_looks_88 (by decide) (fun c22 => ?_) (fun c22 => ?_)
        · replace hf := zo_t c22 hf
          exact k116h h _ _ _ hf hw (lv_sub hl [0, 1, 2] rfl)
        · replace hf := zo_f c22 hf
          refine zl_aload_n hx hb zd_X10_looks_91 rfl (lv_at hl 0 rfl) ?_
          replace hf := zo_b hf; obtain ⟨v23, ev23, hf⟩ := hf
          obtain ⟨u24, u24e, u24v⟩ := zo_b ev23
          obtain rfl := zv_i_e u24v
          refine zw_get S hK hw zk_10 (k := 39) (by decide) rfl zm_1127 (Or.inl rfl) u24e zd_X10_looks_92 ?_
          refine zl_aload_n hx hb zd_X10_looks_95 rfl (lv_at hl 0 rfl) ?_
          refine lv_iload_n hx hb zd_X10_looks_96 rfl (lv_at hl 1 rfl) ?_
          refine lv_iload_n hx hb zd_X10_looks_97 rfl (lv_at hl 2 rfl) ?_
          replace hf := zo_b hf; obtain ⟨r25, er25, hf⟩ := hf
          refine zw_callV (n := 2) (ci := 10) (q := zc_cl[10]) (As := [.int (y1), .int (y2)]) (rest := [.int (v23)]) S hK hw (zt_X10_score l g h q y1 y2 _ er25) zm_1432 zm_1434 zm_55 zq_X10_score zm_79 (by decide +kernel) ⟨Nat.le_of_ble_eq_true rfl, Nat.le_of_ble_eq_true rfl⟩ rfl rfl rfl (zi_X10_score er25) hl.1 rfl (by simp [zv_cat, zv_ci, zv_cj]) zd_X10_looks_98 ⟨(Nat.le_refl 0), (Nat.le_refl 0)⟩ (fun H locs hw => ?_)
          replace hw : zc_W g h H locs := hw
          refine lv_isub hx hb zd_X10_looks_101 ?_
          refine zl_aload_n hx hb zd_X10_looks_102 rfl (lv_at hl 0 rfl) ?_
          replace hf := zo_b hf; obtain ⟨v26, ev26, hf⟩ := hf
          obtain ⟨u27, u27e, u27v⟩ := zo_b ev26
          obtain rfl := zv_r_e u27v
          refine zw_get S hK hw zk_10 (k := 7) (by decide) rfl zm_1095 (Or.inl rfl) u27e zd_X10_looks_103 ?_
          refine lv_iconst (v := 2) hx hb zd_X10_looks_106 (by decide) ?_
          replace hf := zo_b hf; obtain ⟨a28, na28, hf⟩ := hf
          refine W.eq (g2 := F0 m 107 ls [.int (2), va_rf ((some a28)), .int ((v23 - r25))]) (by rw [na28] <;> rfl) ?_
          replace hf := zo_b hf; obtain ⟨v29, ev29, hf⟩ := hf
          refine zw_iald S hK hw ev29 zd_X10_looks_107 ?_
          refine lv_icmp_ge (tgt := 116) hx hb zd_X10_looks_108 (by decide) (fun c30 => ?_) (fun c30 => ?_)
          · replace hf := zo_t c30 hf
            exact k116h h _ _ _ hf hw (lv_sub hl [0, 1, 2] rfl)
          · replace hf := zo_f c30 hf
            refine zl_aload_n hx hb zd_X10_looks_111 rfl (lv_at hl 0 rfl) ?_
            refine lv_iconst (v := 0) hx hb zd_X10_looks_112 (by decide) ?_
            replace hf := zo_b hf; obtain ⟨h31, eh31, hf⟩ := hf
            refine zw_put S hK hw zk_10 (k := 40) (by decide) rfl zm_1128 (Or.inl rfl) eh31 (ty := .boolean) (by decide +kernel) rfl rfl zd_X10_looks_113 (fun H locs hw => ?_)
            exact k116h h31 _ _ _ hf hw (lv_sub hl [0, 1, 2] rfl)
  unfold zf_X10_looks at hf
  obtain ⟨-, hf⟩ := zo_n hf
  refine zl_aload_n hx hb zd_X10_looks_0 rfl (lv_at hl 0 rfl) ?_
  refine lv_iconst (v := (-1)) hx hb zd_X10_looks_1 (by decide) ?_
  replace hf := zo_b hf; obtain ⟨h1, eh1, hf⟩ := hf
  refine zw_put S hK hw zk_10 (k := 38) (by decide) rfl zm_1126 (Or.inl rfl) eh1 (ty := .int) (by decide +kernel) rfl rfl zd_X10_looks_2 (fun H locs hw => ?_)
  refine zl_aload_n hx hb zd_X10_looks_5 rfl (lv_at hl 0 rfl) ?_
  refine lv_iconst (v := (-1)) hx hb zd_X10_looks_6 (by decide) ?_
  replace hf := zo_b hf; obtain ⟨h2, eh2, hf⟩ := hf
  refine zw_put S hK hw zk_10 (k := 39) (by decide) rfl zm_1127 (Or.inl rfl) eh2 (ty := .int) (by decide +kernel) rfl rfl zd_X10_looks_7 (fun H locs hw => ?_)
  refine lv_iconst (v := 0) hx hb zd_X10_looks_10 (by decide) ?_
  refine lv_istore_n (i := 2) (lv' := [(2, .int (0)), (0, va_rf ((some q))), (1, .int (x1))]) hx hb zd_X10_looks_11 rfl hl (by decide) rfl (fun ls hl => ?_)
  replace hf := zo_b hf; obtain ⟨w11, w11e, hf⟩ := hf
  refine L12 x1 2000 h2 0 _ _ _ _ w11e hw (lv_sub hl [1, 2, 0] rfl) (fun H locs ls hw hl => ?_)
  refine zl_aload_n hx hb zd_X10_looks_55 rfl (lv_at hl 0 rfl) ?_
  refine zl_aload_n hx hb zd_X10_looks_56 rfl (lv_at hl 0 rfl) ?_
  replace hf := zo_b hf; obtain ⟨v12, ev12, hf⟩ := hf
  obtain ⟨u13, u13e, u13v⟩ := zo_b ev12
  obtain rfl := zv_i_e u13v
  refine zw_get S hK hw zk_10 (k := 38) (by decide) rfl zm_1126 (Or.inl rfl) u13e zd_X10_looks_57 ?_
  refine lv_iconst (v := (-1)) hx hb zd_X10_looks_60 (by decide) ?_
  have k69h : ∀ (s69_0 : Int32) (s69_1 : Option Nat) (H : Heap) (locs : List Loc) (ls : Array Slot), (
      s69_1.bind fun a15 =>
      if ¬ (s69_0 = 0 ∨ s69_0 = 1) then none else
      (zf_p w11 a15 10 40 (.int (s69_0))).bind fun h17 =>
      (zf_X10_looks_L74 q x1 2000 h17 0).bind fun w32 =>
      some w32
      ) = some res → zc_W g w11 H locs → lv_has ls 4 [(0, va_rf ((some q))), (1, .int (x1))] → W p l e zr_X10_looks s m [va_rf ((some q)), .int (x1)].toArray below meth c H locs 0 0 (zc_Q g below zr_X10_looks none res [va_rf ((some q)), .int (x1)] s) (F0 m 69 ls [.int (s69_0), va_rf (s69_1)]) := by
    intro s69_0 s69_1 H locs ls hf hw hl
    replace hf := zo_b hf; obtain ⟨a15, na15, hf⟩ := hf
    refine W.eq (g2 := F0 m 69 ls [.int (s69_0), va_rf ((some a15))]) (by rw [na15] <;> rfl) ?_
    replace hf := zo_n hf; obtain ⟨z16, hf⟩ := hf
    replace hf := zo_b hf; obtain ⟨h17, eh17, hf⟩ := hf
    refine zw_put S hK hw zk_10 (k := 40) (by decide) rfl zm_1128 (Or.inl rfl) eh17 (ty := .boolean) (by decide +kernel) (zv_z1 (Decidable.not_not.mp z16)) (zv_z2 (Decidable.not_not.mp z16)) zd_X10_looks_69 (fun H locs hw => ?_)
    refine lv_iconst (v := 0) hx hb zd_X10_looks_72 (by decide) ?_
    refine lv_istore_n (i := 2) (lv' := [(2, .int (0)), (0, va_rf ((some q))), (1, .int (x1))]) hx hb zd_X10_looks_73 rfl hl (by decide) rfl (fun ls hl => ?_)
    replace hf := zo_b hf; obtain ⟨w32, w32e, hf⟩ := hf
    refine L74 x1 2000 h17 0 _ _ _ _ w32e hw (lv_sub hl [1, 2, 0] rfl) (fun H locs ls hw hl => ?_)
    have hres := Option.some.inj hf; subst hres
    exact zw_vret hx hb hr hlk hw zd_X10_looks_122 (Nat.le_refl 0) (Nat.le_refl 0)
  refine lv_icmp_eq (tgt := 68) hx hb zd_X10_looks_61 (by decide) (fun c14 => ?_) (fun c14 => ?_)
  · replace hf := zo_t c14 hf
    refine lv_iconst (v := 0) hx hb zd_X10_looks_68 (by decide) ?_
    exact k69h 0 (some q) _ _ _ hf hw (lv_sub hl [0, 1] rfl)
  · replace hf := zo_f c14 hf
    refine lv_iconst (v := 1) hx hb zd_X10_looks_64 (by decide) ?_
    refine lv_goto (tgt := 69) hx hb zd_X10_looks_65 (by decide) ?_
    exact k69h 1 (some q) _ _ _ hf hw (lv_sub hl [0, 1] rfl)
def zf_X10_steps (h : zc_H) (q : Nat) (x1 : Int32) (x2 : Int32) (x3 : Int32) : Option (zc_H) :=
  if ¬ zf_is h q 10 = true then none else
  (zf_gi h q 10 33).bind fun v1 =>
  let k90 := fun (h90j : zc_H) =>
    (zf_gi h90j q 10 33).bind fun v4 =>
    if v4 = 3 then
      (zf_p h90j q 10 31 (.int ((-1)))).bind fun h14 =>
      (zf_p h14 q 10 32 (.int ((-1)))).bind fun h15 =>
      some h15
    else
    (zf_p h90j q 10 34 (.int (x3))).bind fun h7 =>
    (zf_gi h7 q 10 31).bind fun v8 =>
    (zf_p h7 q 10 35 (.int (v8))).bind fun h10 =>
    (zf_gi h10 q 10 32).bind fun v11 =>
    (zf_p h10 q 10 36 (.int (v11))).bind fun h13 =>
    some h13
  let k26 := fun (h26j : zc_H) =>
    (zf_X10_looks h26j q x3).bind fun r16 =>
    (zf_gi r16 q 10 40).bind fun v17 =>
    let k85 := fun (_ : Unit) =>
      (zf_p r16 q 10 33 (.int (3))).bind fun h20 =>
      k90 h20
    if v17 = 0 then
      k85 ()
    else
    (zf_gi r16 q 10 39).bind fun v21 =>
    (zf_gr r16 q 10 7).bind fun v23 =>
    v23.bind fun a25 =>
    (zf_ai r16 a25 0 1).bind fun v26 =>
    if v21 < v26 then
      k85 ()
    else
    (zf_p r16 q 10 33 (.int (2))).bind fun h28 =>
    (zf_gi h28 q 10 38).bind fun v29 =>
    (zf_p h28 q 10 31 (.int (v29))).bind fun h31 =>
    (zf_gi h31 q 10 38).bind fun v32 =>
    (zf_gi h31 q 10 36).bind fun v34 =>
    (zf_gi h31 q 10 35).bind fun v36 =>
    (zf_p h31 q 10 32 (.int (((v32 + v34) - v36)))).bind fun h38 =>
    k90 h38
  if v1 = 3 then
    k26 h
  else
  (zf_X10_goesTo h q x1 x2 x3).bind fun r39 =>
  if r39.2 = 0 then
    k26 r39.1
  else
  (zf_p r39.1 q 10 33 (.int (1))).bind fun h41 =>
  k90 h41
abbrev zr_X10_steps : Room := { frames := 3, cells := 0, slots := 0, locals := 91 }
theorem zi_X10_steps {h : zc_H} {q : Nat} {x1 : Int32} {x2 : Int32} {x3 : Int32} {res : zc_H} (hf : zf_X10_steps h q x1 x2 x3 = some res) : zf_is h q 10 = true := Decidable.not_not.mp (zo_n hf).1
set_option maxHeartbeats 4000000 in
set_option maxRecDepth 20000 in
theorem zt_X10_steps (l : Launch) (g : zc_G) (h : zc_H) (q : Nat) (x1 : Int32) (x2 : Int32) (x3 : Int32) (res : zc_H) (hf : zf_X10_steps h q x1 x2 x3 = some res) : zc_M l g yX10_steps cX10_steps 4 none zr_X10_steps h [va_rf ((some q)), .int (x1), .int (x2), .int (x3)] res none := by
  refine zc_M.of (by decide) (by simp [lg_sl, zv_cat, zv_ci, zv_cj]) ?_
  intro p e s m below meth c ls S hK hw hr hlk hnm hl
  replace S : CallFix p m c cX10_steps 4 s [va_rf ((some q)), .int (x1), .int (x2), .int (x3)].toArray (zc_ws yX10_steps cX10_steps 4 none) RX10 := S
  have hx := S.1
  have hb := S.2.1
  replace hl : lv_has ls 4 [(0, va_rf ((some q))), (1, .int (x1)), (2, .int (x2)), (3, .int (x3))] := by simpa [lv_args, zv_cat, zv_ci, zv_cj] using hl
  generalize s.heap = H at hw ⊢
  obtain ⟨locs, hlocs⟩ : ∃ L : List Loc, L = [] := ⟨_, rfl⟩
  rw [← hlocs] at hw ⊢
  unfold zf_X10_steps at hf
  obtain ⟨-, hf⟩ := zo_n hf
  refine zl_aload_n hx hb zd_X10_steps_0 rfl (lv_at hl 0 rfl) ?_
  replace hf := zo_b hf; obtain ⟨v1, ev1, hf⟩ := hf
  obtain ⟨u2, u2e, u2v⟩ := zo_b ev1
  obtain rfl := zv_i_e u2v
  refine zw_get S hK hw zk_10 (k := 33) (by decide) rfl zm_1121 (Or.inl rfl) u2e zd_X10_steps_1 ?_
  refine lv_iconst (v := 3) hx hb zd_X10_steps_4 (by decide) ?_
  have k90h : ∀ (h90j : zc_H) (H : Heap) (locs : List Loc) (ls : Array Slot), (
      (zf_gi h90j q 10 33).bind fun v4 =>
      if v4 = 3 then
        (zf_p h90j q 10 31 (.int ((-1)))).bind fun h14 =>
        (zf_p h14 q 10 32 (.int ((-1)))).bind fun h15 =>
        some h15
      else
      (zf_p h90j q 10 34 (.int (x3))).bind fun h7 =>
      (zf_gi h7 q 10 31).bind fun v8 =>
      (zf_p h7 q 10 35 (.int (v8))).bind fun h10 =>
      (zf_gi h10 q 10 32).bind fun v11 =>
      (zf_p h10 q 10 36 (.int (v11))).bind fun h13 =>
      some h13
      ) = some res → zc_W g h90j H locs → lv_has ls 4 [(0, va_rf ((some q))), (3, .int (x3))] → W p l e zr_X10_steps s m [va_rf ((some q)), .int (x1), .int (x2), .int (x3)].toArray below meth c H locs 0 0 (zc_Q g below zr_X10_steps none res [va_rf ((some q)), .int (x1), .int (x2), .int (x3)] s) (F0 m 90 ls []) := by
    intro h90j H locs ls hf hw hl
    refine zl_aload_n hx hb zd_X10_steps_90 rfl (lv_at hl 0 rfl) ?_
    replace hf := zo_b hf; obtain ⟨v4, ev4, hf⟩ := hf
    obtain ⟨u5, u5e, u5v⟩ := zo_b ev4
    obtain rfl := zv_i_e u5v
    refine zw_get S hK hw zk_10 (k := 33) (by decide) rfl zm_1121 (Or.inl rfl) u5e zd_X10_steps_91 ?_
    refine lv_iconst (v := 3) hx hb zd_X10_steps_94 (by decide) ?_
    refine lv_icmp_ne (tgt := 109) hx hb zd_X10_steps_95 (by decide) (fun c6 => ?_) (fun c6 => ?_)
    · replace hf := zo_f c6 hf
      refine zl_aload_n hx hb zd_X10_steps_109 rfl (lv_at hl 0 rfl) ?_
      refine lv_iload_n hx hb zd_X10_steps_110 rfl (lv_at hl 1 rfl) ?_
      replace hf := zo_b hf; obtain ⟨h7, eh7, hf⟩ := hf
      refine zw_put S hK hw zk_10 (k := 34) (by decide) rfl zm_1122 (Or.inl rfl) eh7 (ty := .int) (by decide +kernel) rfl rfl zd_X10_steps_111 (fun H locs hw => ?_)
      refine zl_aload_n hx hb zd_X10_steps_114 rfl (lv_at hl 0 rfl) ?_
      refine zl_aload_n hx hb zd_X10_steps_115 rfl (lv_at hl 0 rfl) ?_
      replace hf := zo_b hf; obtain ⟨v8, ev8, hf⟩ := hf
      obtain ⟨u9, u9e, u9v⟩ := zo_b ev8
      obtain rfl := zv_i_e u9v
      refine zw_get S hK hw zk_10 (k := 31) (by decide) rfl zm_1119 (Or.inl rfl) u9e zd_X10_steps_116 ?_
      replace hf := zo_b hf; obtain ⟨h10, eh10, hf⟩ := hf
      refine zw_put S hK hw zk_10 (k := 35) (by decide) rfl zm_1123 (Or.inl rfl) eh10 (ty := .int) (by decide +kernel) rfl rfl zd_X10_steps_119 (fun H locs hw => ?_)
      refine zl_aload_n hx hb zd_X10_steps_122 rfl (lv_at hl 0 rfl) ?_
      refine zl_aload_n hx hb zd_X10_steps_123 rfl (lv_at hl 0 rfl) ?_
      replace hf := zo_b hf; obtain ⟨v11, ev11, hf⟩ := hf
      obtain ⟨u12, u12e, u12v⟩ := zo_b ev11
      obtain rfl := zv_i_e u12v
      refine zw_get S hK hw zk_10 (k := 32) (by decide) rfl zm_1120 (Or.inl rfl) u12e zd_X10_steps_124 ?_
      replace hf := zo_b hf; obtain ⟨h13, eh13, hf⟩ := hf
      refine zw_put S hK hw zk_10 (k := 36) (by decide) rfl zm_1124 (Or.inl rfl) eh13 (ty := .int) (by decide +kernel) rfl rfl zd_X10_steps_127 (fun H locs hw => ?_)
      have hres := Option.some.inj hf; subst hres
      exact zw_vret hx hb hr hlk hw zd_X10_steps_130 (Nat.le_refl 0) (Nat.le_refl 0)
    · replace hf := zo_t c6 hf
      refine zl_aload_n hx hb zd_X10_steps_98 rfl (lv_at hl 0 rfl) ?_
      refine lv_iconst (v := (-1)) hx hb zd_X10_steps_99 (by decide) ?_
      replace hf := zo_b hf; obtain ⟨h14, eh14, hf⟩ := hf
      refine zw_put S hK hw zk_10 (k := 31) (by decide) rfl zm_1119 (Or.inl rfl) eh14 (ty := .int) (by decide +kernel) rfl rfl zd_X10_steps_100 (fun H locs hw => ?_)
      refine zl_aload_n hx hb zd_X10_steps_103 rfl (lv_at hl 0 rfl) ?_
      refine lv_iconst (v := (-1)) hx hb zd_X10_steps_104 (by decide) ?_
      replace hf := zo_b hf; obtain ⟨h15, eh15, hf⟩ := hf
      refine zw_put S hK hw zk_10 (k := 32) (by decide) rfl zm_1120 (Or.inl rfl) eh15 (ty := .int) (by decide +kernel) rfl rfl zd_X10_steps_105 (fun H locs hw => ?_)
      have hres := Option.some.inj hf; subst hres
      exact zw_vret hx hb hr hlk hw zd_X10_steps_108 (Nat.le_refl 0) (Nat.le_refl 0)
  have k26h : ∀ (h26j : zc_H) (H : Heap) (locs : List Loc) (ls : Array Slot), (
      let k90 := fun (h90j : zc_H) =>
        (zf_gi h90j q 10 33).bind fun v4 =>
        if v4 = 3 then
          (zf_p h90j q 10 31 (.int ((-1)))).bind fun h14 =>
          (zf_p h14 q 10 32 (.int ((-1)))).bind fun h15 =>
          some h15
        else
        (zf_p h90j q 10 34 (.int (x3))).bind fun h7 =>
        (zf_gi h7 q 10 31).bind fun v8 =>
        (zf_p h7 q 10 35 (.int (v8))).bind fun h10 =>
        (zf_gi h10 q 10 32).bind fun v11 =>
        (zf_p h10 q 10 36 (.int (v11))).bind fun h13 =>
        some h13
      (zf_X10_looks h26j q x3).bind fun r16 =>
      (zf_gi r16 q 10 40).bind fun v17 =>
      let k85 := fun (_ : Unit) =>
        (zf_p r16 q 10 33 (.int (3))).bind fun h20 =>
        k90 h20
      if v17 = 0 then
        k85 ()
      else
      (zf_gi r16 q 10 39).bind fun v21 =>
      (zf_gr r16 q 10 7).bind fun v23 =>
      v23.bind fun a25 =>
      (zf_ai r16 a25 0 1).bind fun v26 =>
      if v21 < v26 then
        k85 ()
      else
      (zf_p r16 q 10 33 (.int (2))).bind fun h28 =>
      (zf_gi h28 q 10 38).bind fun v29 =>
      (zf_p h28 q 10 31 (.int (v29))).bind fun h31 =>
      (zf_gi h31 q 10 38).bind fun v32 =>
      (zf_gi h31 q 10 36).bind fun v34 =>
      (zf_gi h31 q 10 35).bind fun v36 =>
      (zf_p h31 q 10 32 (.int (((v32 + v34) - v36)))).bind fun h38 =>
      k90 h38
      ) = some res → zc_W g h26j H locs → lv_has ls 4 [(0, va_rf ((some q))), (3, .int (x3))] → W p l e zr_X10_steps s m [va_rf ((some q)), .int (x1), .int (x2), .int (x3)].toArray below meth c H locs 0 0 (zc_Q g below zr_X10_steps none res [va_rf ((some q)), .int (x1), .int (x2), .int (x3)] s) (F0 m 26 ls []) := by
    intro h26j H locs ls hf hw hl
    refine zl_aload_n hx hb zd_X10_steps_26 rfl (lv_at hl 0 rfl) ?_
    refine lv_iload_n hx hb zd_X10_steps_27 rfl (lv_at hl 1 rfl) ?_
    replace hf := zo_b hf; obtain ⟨r16, er16, hf⟩ := hf
    refine zw_callV (n := 1) (ci := 10) (q := zc_cl[10]) (As := [.int (x3)]) (rest := []) S hK hw (zt_X10_looks l g h26j q x3 _ er16) zm_1424 zm_1426 zm_53 zq_X10_looks zm_79 (by decide +kernel) ⟨Nat.le_of_ble_eq_true rfl, Nat.le_of_ble_eq_true rfl⟩ rfl rfl rfl (zi_X10_looks er16) hl.1 rfl (by simp [zv_cat, zv_ci, zv_cj]) zd_X10_steps_28 ⟨(Nat.le_refl 0), (Nat.le_refl 0)⟩ (fun H locs hw => ?_)
    replace hw : zc_W g r16 H locs := hw
    refine zl_aload_n hx hb zd_X10_steps_31 rfl (lv_at hl 0 rfl) ?_
    replace hf := zo_b hf; obtain ⟨v17, ev17, hf⟩ := hf
    obtain ⟨u18, u18e, u18v⟩ := zo_b ev17
    obtain rfl := zv_i_e u18v
    refine zw_get S hK hw zk_10 (k := 40) (by decide) rfl zm_1128 (Or.inl rfl) u18e zd_X10_steps_32 ?_
    have k85h : ∀ (_ : Unit) (H : Heap) (locs : List Loc) (ls : Array Slot), (
        let k90 := fun (h90j : zc_H) =>
          (zf_gi h90j q 10 33).bind fun v4 =>
          if v4 = 3 then
            (zf_p h90j q 10 31 (.int ((-1)))).bind fun h14 =>
            (zf_p h14 q 10 32 (.int ((-1)))).bind fun h15 =>
            some h15
          else
          (zf_p h90j q 10 34 (.int (x3))).bind fun h7 =>
          (zf_gi h7 q 10 31).bind fun v8 =>
          (zf_p h7 q 10 35 (.int (v8))).bind fun h10 =>
          (zf_gi h10 q 10 32).bind fun v11 =>
          (zf_p h10 q 10 36 (.int (v11))).bind fun h13 =>
          some h13
        (zf_p r16 q 10 33 (.int (3))).bind fun h20 =>
        k90 h20
        ) = some res → zc_W g r16 H locs → lv_has ls 4 [(0, va_rf ((some q))), (3, .int (x3))] → W p l e zr_X10_steps s m [va_rf ((some q)), .int (x1), .int (x2), .int (x3)].toArray below meth c H locs (0 + 0) (0 + 0) (zc_Q g below zr_X10_steps none res [va_rf ((some q)), .int (x1), .int (x2), .int (x3)] s) (F0 m 85 ls []) := by
      intro _ H locs ls hf hw hl
      refine zl_aload_n hx hb zd_X10_steps_85 rfl (lv_at hl 0 rfl) ?_
      refine lv_iconst (v := 3) hx hb zd_X10_steps_86 (by decide) ?_
      replace hf := zo_b hf; obtain ⟨h20, eh20, hf⟩ := hf
      refine zw_put S hK hw zk_10 (k := 33) (by decide) rfl zm_1121 (Or.inl rfl) eh20 (ty := .int) (by decide +kernel) rfl rfl zd_X10_steps_87 (fun H locs hw => ?_)
      exact k90h h20 _ _ _ hf hw (lv_sub hl [0, 1] rfl)
    refine lv_if_eq (tgt := 85) hx hb zd_X10_steps_35 (by decide) (fun c19 => ?_) (fun c19 => ?_)
    · replace hf := zo_t c19 hf
      exact k85h () _ _ _ hf hw (lv_sub hl [0, 1] rfl)
    · replace hf := zo_f c19 hf
      refine zl_aload_n hx hb zd_X10_steps_38 rfl (lv_at hl 0 rfl) ?_
      replace hf := zo_b hf; obtain ⟨v21, ev21, hf⟩ := hf
      obtain ⟨u22, u22e, u22v⟩ := zo_b ev21
      obtain rfl := zv_i_e u22v
      refine zw_get S hK hw zk_10 (k := 39) (by decide) rfl zm_1127 (Or.inl rfl) u22e zd_X10_steps_39 ?_
      refine zl_aload_n hx hb zd_X10_steps_42 rfl (lv_at hl 0 rfl) ?_
      replace hf := zo_b hf; obtain ⟨v23, ev23, hf⟩ := hf
      obtain ⟨u24, u24e, u24v⟩ := zo_b ev23
      obtain rfl := zv_r_e u24v
      refine zw_get S hK hw zk_10 (k := 7) (by decide) rfl zm_1095 (Or.inl rfl) u24e zd_X10_steps_43 ?_
      refine lv_iconst (v := 1) hx hb zd_X10_steps_46 (by decide) ?_
      replace hf := zo_b hf; obtain ⟨a25, na25, hf⟩ := hf
      refine W.eq (g2 := F0 m 47 ls [.int (1), va_rf ((some a25)), .int (v21)]) (by rw [na25] <;> rfl) ?_
      replace hf := zo_b hf; obtain ⟨v26, ev26, hf⟩ := hf
      refine zw_iald S hK hw ev26 zd_X10_steps_47 ?_
      refine lv_icmp_lt (tgt := 85) hx hb zd_X10_steps_48 (by decide) (fun c27 => ?_) (fun c27 => ?_)
      · replace hf := zo_t c27 hf
        exact k85h () _ _ _ hf hw (lv_sub hl [0, 1] rfl)
      · replace hf := zo_f c27 hf
        refine zl_aload_n hx hb zd_X10_steps_51 rfl (lv_at hl 0 rfl) ?_
        refine lv_iconst (v := 2) hx hb zd_X10_steps_52 (by decide) ?_
        replace hf := zo_b hf; obtain ⟨h28, eh28, hf⟩ := hf
        refine zw_put S hK hw zk_10 (k := 33) (by decide) rfl zm_1121 (Or.inl rfl) eh28 (ty := .int) (by decide +kernel) rfl rfl zd_X10_steps_53 (fun H locs hw => ?_)
        refine zl_aload_n hx hb zd_X10_steps_56 rfl (lv_at hl 0 rfl) ?_
        refine zl_aload_n hx hb zd_X10_steps_57 rfl (lv_at hl 0 rfl) ?_
        replace hf := zo_b hf; obtain ⟨v29, ev29, hf⟩ := hf
        obtain ⟨u30, u30e, u30v⟩ := zo_b ev29
        obtain rfl := zv_i_e u30v
        refine zw_get S hK hw zk_10 (k := 38) (by decide) rfl zm_1126 (Or.inl rfl) u30e zd_X10_steps_58 ?_
        replace hf := zo_b hf; obtain ⟨h31, eh31, hf⟩ := hf
        refine zw_put S hK hw zk_10 (k := 31) (by decide) rfl zm_1119 (Or.inl rfl) eh31 (ty := .int) (by decide +kernel) rfl rfl zd_X10_steps_61 (fun H locs hw => ?_)
        refine zl_aload_n hx hb zd_X10_steps_64 rfl (lv_at hl 0 rfl) ?_
        refine zl_aload_n hx hb zd_X10_steps_65 rfl (lv_at hl 0 rfl) ?_
        replace hf := zo_b hf; obtain ⟨v32, ev32, hf⟩ := hf
        obtain ⟨u33, u33e, u33v⟩ := zo_b ev32
        obtain rfl := zv_i_e u33v
        refine zw_get S hK hw zk_10 (k := 38) (by decide) rfl zm_1126 (Or.inl rfl) u33e zd_X10_steps_66 ?_
        refine zl_aload_n hx hb zd_X10_steps_69 rfl (lv_at hl 0 rfl) ?_
        replace hf := zo_b hf; obtain ⟨v34, ev34, hf⟩ := hf
        obtain ⟨u35, u35e, u35v⟩ := zo_b ev34
        obtain rfl := zv_i_e u35v
        refine zw_get S hK hw zk_10 (k := 36) (by decide) rfl zm_1124 (Or.inl rfl) u35e zd_X10_steps_70 ?_
        refine lv_iadd hx hb zd_X10_steps_73 ?_
        refine zl_aload_n hx hb zd_X10_steps_74 rfl (lv_at hl 0 rfl) ?_
        replace hf := zo_b hf; obtain ⟨v36, ev36, hf⟩ := hf
        obtain ⟨u37, u37e, u37v⟩ := zo_b ev36
        obtain rfl := zv_i_e u37v
        refine zw_get S hK hw zk_10 (k := 35) (by decide) rfl zm_1123 (Or.inl rfl) u37e zd_X10_steps_75 ?_
        refine lv_isub hx hb zd_X10_steps_78 ?_
        replace hf := zo_b hf; obtain ⟨h38, eh38, hf⟩ := hf
        refine zw_put S hK hw zk_10 (k := 32) (by decide) rfl zm_1120 (Or.inl rfl) eh38 (ty := .int) (by decide +kernel) rfl rfl zd_X10_steps_79 (fun H locs hw => ?_)
        refine lv_goto (tgt := 90) hx hb zd_X10_steps_82 (by decide) ?_
        exact k90h h38 _ _ _ hf hw (lv_sub hl [0, 1] rfl)
  refine lv_icmp_eq (tgt := 26) hx hb zd_X10_steps_5 (by decide) (fun c3 => ?_) (fun c3 => ?_)
  · replace hf := zo_t c3 hf
    exact k26h h _ _ _ hf hw (lv_sub hl [0, 3] rfl)
  · replace hf := zo_f c3 hf
    refine zl_aload_n hx hb zd_X10_steps_8 rfl (lv_at hl 0 rfl) ?_
    refine lv_iload_n hx hb zd_X10_steps_9 rfl (lv_at hl 1 rfl) ?_
    refine lv_iload_n hx hb zd_X10_steps_10 rfl (lv_at hl 2 rfl) ?_
    refine lv_iload_n hx hb zd_X10_steps_11 rfl (lv_at hl 3 rfl) ?_
    replace hf := zo_b hf; obtain ⟨r39, er39, hf⟩ := hf
    refine zw_callV (n := 3) (ci := 10) (q := zc_cl[10]) (As := [.int (x1), .int (x2), .int (x3)]) (rest := []) S hK hw (zt_X10_goesTo l g h q x1 x2 x3 _ er39) zm_1411 zm_1413 zm_50 zq_X10_goesTo zm_79 (by decide +kernel) ⟨Nat.le_of_ble_eq_true rfl, Nat.le_of_ble_eq_true rfl⟩ rfl rfl rfl (zi_X10_goesTo er39) hl.1 rfl (by simp [zv_cat, zv_ci, zv_cj]) zd_X10_steps_12 ⟨(Nat.le_refl 0), (Nat.le_refl 0)⟩ (fun H locs hw => ?_)
    replace hw : zc_W g r39.1 H locs := hw
    refine lv_if_eq (tgt := 26) hx hb zd_X10_steps_15 (by decide) (fun c40 => ?_) (fun c40 => ?_)
    · replace hf := zo_t c40 hf
      exact k26h r39.1 _ _ _ hf hw (lv_sub hl [0, 3] rfl)
    · replace hf := zo_f c40 hf
      refine zl_aload_n hx hb zd_X10_steps_18 rfl (lv_at hl 0 rfl) ?_
      refine lv_iconst (v := 1) hx hb zd_X10_steps_19 (by decide) ?_
      replace hf := zo_b hf; obtain ⟨h41, eh41, hf⟩ := hf
      refine zw_put S hK hw zk_10 (k := 33) (by decide) rfl zm_1121 (Or.inl rfl) eh41 (ty := .int) (by decide +kernel) rfl rfl zd_X10_steps_20 (fun H locs hw => ?_)
      refine lv_goto (tgt := 90) hx hb zd_X10_steps_23 (by decide) ?_
      exact k90h h41 _ _ _ hf hw (lv_sub hl [0, 3] rfl)
