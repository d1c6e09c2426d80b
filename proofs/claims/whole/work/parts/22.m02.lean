def zf_X10_run_L3 (h : zc_H) (q : Nat) (y1 : Int32) (y2 : Int32) (y3 : Int32) (y4 : Int32) : Nat → Int32 → Option (Int32)
  | 0, _ => none
  | n + 1, y5 =>
    (zf_gr h q 10 2).bind fun v1 =>
    v1.bind fun a3 =>
    (zf_ai h a3 0 y1).bind fun v4 =>
    if v4 ≤ (y2 + y5) then
      some y5
    else
    (zf_gr h q 10 2).bind fun v6 =>
    v6.bind fun a8 =>
    (zf_ai h a8 0 y3).bind fun v9 =>
    if v9 ≤ (y4 + y5) then
      some y5
    else
    (zf_gr h q 10 26).bind fun v11 =>
    v11.bind fun a13 =>
    (zf_ai h a13 0 (y2 + y5)).bind fun v14 =>
    if v14 = (-1) then
      (zf_gr h q 10 27).bind fun v16 =>
      v16.bind fun a18 =>
      (zf_ai h a18 2 (y4 + y5)).bind fun v19 =>
      if v19 = 0 then
        (zf_X10_isAlike h q y1 (y2 + y5) y3 (y4 + y5)).bind fun r21 =>
        if r21 = 0 then
          some y5
        else
        zf_X10_run_L3 h q y1 y2 y3 y4 n (y5 + 1)
      else
      some y5
    else
    some y5
def zf_X10_run (h : zc_H) (q : Nat) (x1 : Int32) (x2 : Int32) (x3 : Int32) (x4 : Int32) : Option (Int32) :=
  if ¬ zf_is h q 10 = true then none else
  (zf_X10_run_L3 h q x1 x2 x3 x4 2000 0).bind fun w23 =>
  some w23
abbrev zr_X10_run : Room := { frames := 1, cells := 0, slots := 0, locals := 24 }
theorem zi_X10_run {h : zc_H} {q : Nat} {x1 : Int32} {x2 : Int32} {x3 : Int32} {x4 : Int32} {res : Int32} (hf : zf_X10_run h q x1 x2 x3 x4 = some res) : zf_is h q 10 = true := Decidable.not_not.mp (zo_n hf).1
set_option maxHeartbeats 4000000 in
set_option maxRecDepth 20000 in
theorem zt_X10_run (l : Launch) (g : zc_G) (h : zc_H) (q : Nat) (x1 : Int32) (x2 : Int32) (x3 : Int32) (x4 : Int32) (res : Int32) (hf : zf_X10_run h q x1 x2 x3 x4 = some res) : zc_M l g yX10_run cX10_run 6 (some .int) zr_X10_run h [va_rf ((some q)), .int (x1), .int (x2), .int (x3), .int (x4)] h (some (.int (res))) := by
  refine zc_M.of (by decide) (by simp [lg_sl, zv_cat, zv_ci, zv_cj]) ?_
  intro p e s m below meth c ls S hK hw hr hlk hnm hl
  replace S : CallFix p m c cX10_run 6 s [va_rf ((some q)), .int (x1), .int (x2), .int (x3), .int (x4)].toArray (zc_ws yX10_run cX10_run 6 (some .int)) RX10 := S
  have hx := S.1
  have hb := S.2.1
  replace hl : lv_has ls 6 [(0, va_rf ((some q))), (1, .int (x1)), (2, .int (x2)), (3, .int (x3)), (4, .int (x4))] := by simpa [lv_args, zv_cat, zv_ci, zv_cj] using hl
  generalize s.heap = H at hw ⊢
  obtain ⟨locs, hlocs⟩ : ∃ L : List Loc, L = [] := ⟨_, rfl⟩
  rw [← hlocs] at hw ⊢
  have L3 : ∀ (h : zc_H) (y1 : Int32) (y2 : Int32) (y3 : Int32) (y4 : Int32) (n : Nat) (y5 : Int32) (w : Int32) (H : Heap) (locs : List Loc) (ls : Array Slot), zf_X10_run_L3 h q y1 y2 y3 y4 n y5 = some w → zc_W g h H locs → lv_has ls 6 [(0, va_rf ((some q))), (1, .int (y1)), (2, .int (y2)), (3, .int (y3)), (4, .int (y4)), (5, .int (y5))] → (∀ (H : Heap) (locs : List Loc) (ls : Array Slot), zc_W g h H locs → lv_has ls 6 [(5, .int (w))] → W p l e zr_X10_run s m [va_rf ((some q)), .int (x1), .int (x2), .int (x3), .int (x4)].toArray below meth c H locs 0 0 (zc_Q g below zr_X10_run (some (.int (res))) h [va_rf ((some q)), .int (x1), .int (x2), .int (x3), .int (x4)] s) (F0 m 80 ls [])) → W p l e zr_X10_run s m [va_rf ((some q)), .int (x1), .int (x2), .int (x3), .int (x4)].toArray below meth c H locs 0 0 (zc_Q g below zr_X10_run (some (.int (res))) h [va_rf ((some q)), .int (x1), .int (x2), .int (x3), .int (x4)] s) (F0 m 3 ls []) := by
    intro h y1 y2 y3 y4 n
    induction n with
    | zero =>
      intro y5 w H locs ls hf
      cases hf
    | succ n ih =>
      intro y5 w H locs ls hf hw hl  kk
      unfold zf_X10_run_L3 at hf
      refine lv_iload_n hx hb zd_X10_run_3 rfl (lv_at hl 2 rfl) ?_
      refine lv_iload hx hb zd_X10_run_4 (lv_at hl 5 rfl) ?_
      refine lv_iadd hx hb zd_X10_run_6 ?_
      refine zl_aload_n hx hb zd_X10_run_7 rfl (lv_at hl 0 rfl) ?_
      replace hf := zo_b hf; obtain ⟨v1, ev1, hf⟩ := hf
      obtain ⟨u2, u2e, u2v⟩ := zo_b ev1
      obtain rfl := zv_r_e u2v
      refine zw_get S hK hw zk_10 (k := 2) (by decide) rfl zm_1090 (Or.inl rfl) u2e zd_X10_run_8 ?_
      refine lv_iload_n hx hb zd_X10_run_11 rfl (lv_at hl 1 rfl) ?_
      replace hf := zo_b hf; obtain ⟨a3, na3, hf⟩ := hf
      refine W.eq (g2 := F0 m 12 ls [.int (y1), va_rf ((some a3)), .int ((y2 + y5))]) (by rw [na3] <;> rfl) ?_
      replace hf := zo_b hf; obtain ⟨v4, ev4, hf⟩ := hf
      refine zw_iald S hK hw ev4 zd_X10_run_12 ?_
      refine lv_icmp_ge (tgt := 80) hx hb zd_X10_run_13 (by decide) (fun c5 => ?_) (fun c5 => ?_)
      · replace hf := zo_t c5 hf
        have hres := Option.some.inj hf; subst hres
        exact kk _ _ _ hw (lv_sub hl [5] rfl)
      · replace hf := zo_f c5 hf
        refine lv_iload hx hb zd_X10_run_16 (lv_at hl 4 rfl) ?_
        refine lv_iload hx hb zd_X10_run_18 (lv_at hl 5 rfl) ?_
        refine lv_iadd hx hb zd_X10_run_20 ?_
        refine zl_aload_n hx hb zd_X10_run_21 rfl (lv_at hl 0 rfl) ?_
        replace hf := zo_b hf; obtain ⟨v6, ev6, hf⟩ := hf
        obtain ⟨u7, u7e, u7v⟩ := zo_b ev6
        obtain rfl := zv_r_e u7v
        refine zw_get S hK hw zk_10 (k := 2) (by decide) rfl zm_1090 (Or.inl rfl) u7e zd_X10_run_22 ?_
        refine lv_iload_n hx hb zd_X10_run_25 rfl (lv_at hl 3 rfl) ?_
        replace hf := zo_b hf; obtain ⟨a8, na8, hf⟩ := hf
        refine W.eq (g2 := F0 m 26 ls [.int (y3), va_rf ((some a8)), .int ((y4 + y5))]) (by rw [na8] <;> rfl) ?_
        replace hf := zo_b hf; obtain ⟨v9, ev9, hf⟩ := hf
        refine zw_iald S hK hw ev9 zd_X10_run_26 ?_
        refine lv_icmp_ge (tgt := 80) hx hb zd_X10_run_27 (by decide) (fun c10 => ?_) (fun c10 => ?_)
        · replace hf := zo_t c10 hf
          have hres := Option.some.inj hf; subst hres
          exact kk _ _ _ hw (lv_sub hl [5] rfl)
        · replace hf := zo_f c10 hf
          refine zl_aload_n hx hb zd_X10_run_30 rfl (lv_at hl 0 rfl) ?_
          replace hf := zo_b hf; obtain ⟨v11, ev11, hf⟩ := hf
          obtain ⟨u12, u12e, u12v⟩ := zo_b ev11
          obtain rfl := zv_r_e u12v
          refine zw_get S hK hw zk_10 (k := 26) (by decide) rfl zm_1114 (Or.inl rfl) u12e zd_X10_run_31 ?_
          refine lv_iload_n hx hb zd_X10_run_34 rfl (lv_at hl 2 rfl) ?_
          refine lv_iload hx hb zd_X10_run_35 (lv_at hl 5 rfl) ?_
          refine lv_iadd hx hb zd_X10_run_37 ?_
          replace hf := zo_b hf; obtain ⟨a13, na13, hf⟩ := hf
          refine W.eq (g2 := F0 m 38 ls [.int ((y2 + y5)), va_rf ((some a13))]) (by rw [na13] <;> rfl) ?_
          replace hf := zo_b hf; obtain ⟨v14, ev14, hf⟩ := hf
          refine zw_iald S hK hw ev14 zd_X10_run_38 ?_
          refine lv_iconst (v := (-1)) hx hb zd_X10_run_39 (by decide) ?_
          refine lv_icmp_ne (tgt := 80) hx hb zd_X10_run_40 (by decide) (fun c15 => ?_) (fun c15 => ?_)
          · replace hf := zo_f c15 hf
            have hres := Option.some.inj hf; subst hres
            exact kk _ _ _ hw (lv_sub hl [5] rfl)
          · replace hf := zo_t c15 hf
            refine zl_aload_n hx hb zd_X10_run_43 rfl (lv_at hl 0 rfl) ?_
            replace hf := zo_b hf; obtain ⟨v16, ev16, hf⟩ := hf
            obtain ⟨u17, u17e, u17v⟩ := zo_b ev16
            obtain rfl := zv_r_e u17v
            refine zw_get S hK hw zk_10 (k := 27) (by decide) rfl zm_1115 (Or.inl rfl) u17e zd_X10_run_44 ?_
            refine lv_iload hx hb zd_X10_run_47 (lv_at hl 4 rfl) ?_
            refine lv_iload hx hb zd_X10_run_49 (lv_at hl 5 rfl) ?_
            refine lv_iadd hx hb zd_X10_run_51 ?_
            replace hf := zo_b hf; obtain ⟨a18, na18, hf⟩ := hf
            refine W.eq (g2 := F0 m 52 ls [.int ((y4 + y5)), va_rf ((some a18))]) (by rw [na18] <;> rfl) ?_
            replace hf := zo_b hf; obtain ⟨v19, ev19, hf⟩ := hf
            refine zw_zald S hK hw ev19 zd_X10_run_52 ?_
            refine lv_if_ne (tgt := 80) hx hb zd_X10_run_53 (by decide) (fun c20 => ?_) (fun c20 => ?_)
            · replace hf := zo_f c20 hf
              have hres := Option.some.inj hf; subst hres
              exact kk _ _ _ hw (lv_sub hl [5] rfl)
            · replace hf := zo_t c20 hf
              refine zl_aload_n hx hb zd_X10_run_56 rfl (lv_at hl 0 rfl) ?_
              refine lv_iload_n hx hb zd_X10_run_57 rfl (lv_at hl 1 rfl) ?_
              refine lv_iload_n hx hb zd_X10_run_58 rfl (lv_at hl 2 rfl) ?_
              refine lv_iload hx hb zd_X10_run_59 (lv_at hl 5 rfl) ?_
              refine lv_iadd hx hb zd_X10_run_61 ?_
              refine lv_iload_n hx hb zd_X10_run_62 rfl (lv_at hl 3 rfl) ?_
              refine lv_iload hx hb zd_X10_run_63 (lv_at hl 4 rfl) ?_
              refine lv_iload hx hb zd_X10_run_65 (lv_at hl 5 rfl) ?_
              refine lv_iadd hx hb zd_X10_run_67 ?_
              replace hf := zo_b hf; obtain ⟨r21, er21, hf⟩ := hf
              refine zw_callV (n := 4) (ci := 10) (q := zc_cl[10]) (As := [.int (y1), .int ((y2 + y5)), .int (y3), .int ((y4 + y5))]) (rest := []) S hK hw (zt_X10_isAlike l g h q y1 (y2 + y5) y3 (y4 + y5) _ er21) zm_1301 zm_1303 zm_36 zq_X10_isAlike zm_79 (by decide +kernel) ⟨Nat.le_of_ble_eq_true rfl, Nat.le_of_ble_eq_true rfl⟩ rfl rfl rfl (zi_X10_isAlike er21) hl.1 rfl (by simp [zv_cat, zv_ci, zv_cj]) zd_X10_run_68 ⟨(Nat.le_refl 0), (Nat.le_refl 0)⟩ (fun H locs hw => ?_)
              replace hw : zc_W g h H locs := hw
              refine lv_if_eq (tgt := 80) hx hb zd_X10_run_71 (by decide) (fun c22 => ?_) (fun c22 => ?_)
              · replace hf := zo_t c22 hf
                have hres := Option.some.inj hf; subst hres
                exact kk _ _ _ hw (lv_sub hl [5] rfl)
              · replace hf := zo_f c22 hf
                refine lv_iinc (i := 5) (v := (y5 + 1)) (lv' := [(5, .int ((y5 + 1))), (0, va_rf ((some q))), (1, .int (y1)), (2, .int (y2)), (3, .int (y3)), (4, .int (y4))]) hx hb zd_X10_run_74 hl (k := 5) rfl (congrArg (_ + ·) (by decide)) (by decide) rfl (fun ls hl => ?_)
                refine lv_goto (tgt := 3) hx hb zd_X10_run_77 (by decide) ?_
                exact ih (y5 + 1) _ _ _ _ hf hw (lv_sub hl [1, 2, 3, 4, 5, 0] rfl) kk
  unfold zf_X10_run at hf
  obtain ⟨-, hf⟩ := zo_n hf
  refine lv_iconst (v := 0) hx hb zd_X10_run_0 (by decide) ?_
  refine lv_istore (i := 5) (lv' := [(5, .int (0)), (0, va_rf ((some q))), (1, .int (x1)), (2, .int (x2)), (3, .int (x3)), (4, .int (x4))]) hx hb zd_X10_run_1 hl (by decide) rfl (fun ls hl => ?_)
  replace hf := zo_b hf; obtain ⟨w23, w23e, hf⟩ := hf
  refine L3 h x1 x2 x3 x4 2000 0 _ _ _ _ w23e hw (lv_sub hl [1, 2, 3, 4, 5, 0] rfl) (fun H locs ls hw hl => ?_)
  refine lv_iload hx hb zd_X10_run_80 (lv_at hl 0 rfl) ?_
  have hres := Option.some.inj hf; subst hres
  exact zw_iret (v := w23) (ty := .int) hx hb hr hlk rfl hw zd_X10_run_82 (Nat.le_refl 0) (Nat.le_refl 0)
def zf_X10_moves_L25 (h : zc_H) (q : Nat) (y1 : Int32) (y2 : Int32) (y6 : Int32) : Nat → Int32 → Int32 → Int32 → Int32 → Option (Int32 × Int32 × Int32)
  | 0, _, _, _, _ => none
  | n + 1, y3, y4, y5, y7 =>
    (zf_gr h q 10 2).bind fun v6 =>
    v6.bind fun a8 =>
    (zf_ai h a8 0 y2).bind fun v9 =>
    if v9 ≤ y7 then
      some (y3, y4, y5)
    else
    (zf_X10_run h q y1 y6 y2 y7).bind fun r11 =>
    let k68 := fun (y68_3 : Int32) (y68_4 : Int32) (y68_5 : Int32) =>
      zf_X10_moves_L25 h q y1 y2 y6 n y68_3 y68_4 y68_5 (y7 + 1)
    if y3 < r11 then
      k68 r11 y6 y7
    else
    k68 y3 y4 y5
def zf_X10_moves_L11 (h : zc_H) (q : Nat) (y1 : Int32) (y2 : Int32) : Nat → Int32 → Int32 → Int32 → Int32 → Option (Int32 × Int32 × Int32)
  | 0, _, _, _, _ => none
  | n + 1, y3, y4, y5, y6 =>
    (zf_gr h q 10 2).bind fun v1 =>
    v1.bind fun a3 =>
    (zf_ai h a3 0 y1).bind fun v4 =>
    if v4 ≤ y6 then
      some (y3, y4, y5)
    else
    (zf_X10_moves_L25 h q y1 y2 y6 2000 y3 y4 y5 0).bind fun w13 =>
    zf_X10_moves_L11 h q y1 y2 n w13.1 w13.2.1 w13.2.2 (y6 + 1)
def zf_X10_moves_L95 (q : Nat) (y3 : Int32) (y4 : Int32) (y5 : Int32) : Nat → zc_H → Int32 → Option (zc_H)
  | 0, _, _ => none
  | n + 1, h, y6 =>
    if y3 ≤ y6 then
      some h
    else
    (zf_gr h q 10 26).bind fun v21 =>
    v21.bind fun a23 =>
    (zf_si h a23 0 (y4 + y6) (y5 + y6)).bind fun h24 =>
    (zf_gr h24 q 10 27).bind fun v25 =>
    v25.bind fun a27 =>
    (zf_si h24 a27 2 (y5 + y6) (1 &&& 1)).bind fun h28 =>
    zf_X10_moves_L95 q y3 y4 y5 n h28 (y6 + 1)
def zf_X10_moves (h : zc_H) (q : Nat) (x1 : Int32) (x2 : Int32) : Option (zc_H × Int32) :=
  if ¬ zf_is h q 10 = true then none else
  (zf_X10_moves_L11 h q x1 x2 2000 0 0 0 0).bind fun w14 =>
  (zf_gr h q 10 7).bind fun v15 =>
  v15.bind fun a17 =>
  (zf_ai h a17 0 0).bind fun v18 =>
  if v18 ≤ w14.1 then
    (zf_X10_moves_L95 q w14.1 w14.2.1 w14.2.2 2000 h 0).bind fun w29 =>
    (zf_gi w29 q 10 29).bind fun v30 =>
    (zf_p w29 q 10 29 (.int ((v30 + w14.1)))).bind fun h32 =>
    some (h32, 1)
  else
  some (h, 0)
abbrev zr_X10_moves : Room := { frames := 2, cells := 0, slots := 0, locals := 49 }
theorem zi_X10_moves {h : zc_H} {q : Nat} {x1 : Int32} {x2 : Int32} {res : zc_H × Int32} (hf : zf_X10_moves h q x1 x2 = some res) : zf_is h q 10 = true := Decidable.not_not.mp (zo_n hf).1
set_option maxHeartbeats 4000000 in
set_option maxRecDepth 20000 in
theorem zt_X10_moves (l : Launch) (g : zc_G) (h : zc_H) (q : Nat) (x1 : Int32) (x2 : Int32) (res : zc_H × Int32) (hf : zf_X10_moves h q x1 x2 = some res) : zc_M l g yX10_moves cX10_moves 9 (some .boolean) zr_X10_moves h [va_rf ((some q)), .int (x1), .int (x2)] res.1 (some (.int (res.2))) := by
  refine zc_M.of (by decide) (by simp [lg_sl, zv_cat, zv_ci, zv_cj]) ?_
  intro p e s m below meth c ls S hK hw hr hlk hnm hl
  replace S : CallFix p m c cX10_moves 9 s [va_rf ((some q)), .int (x1), .int (x2)].toArray (zc_ws yX10_moves cX10_moves 9 (some .boolean)) RX10 := S
  have hx := S.1
  have hb := S.2.1
  replace hl : lv_has ls 9 [(0, va_rf ((some q))), (1, .int (x1)), (2, .int (x2))] := by simpa [lv_args, zv_cat, zv_ci, zv_cj] using hl
  generalize s.heap = H at hw ⊢
  obtain ⟨locs, hlocs⟩ : ∃ L : List Loc, L = [] := ⟨_, rfl⟩
  rw [← hlocs] at hw ⊢
  have L25 : ∀ (h : zc_H) (y1 : Int32) (y2 : Int32) (y6 : Int32) (n : Nat) (y3 : Int32) (y4 : Int32) (y5 : Int32) (y7 : Int32) (w : Int32 × Int32 × Int32) (H : Heap) (locs : List Loc) (ls : Array Slot), zf_X10_moves_L25 h q y1 y2 y6 n y3 y4 y5 y7 = some w → zc_W g h H locs → lv_has ls 9 [(0, va_rf ((some q))), (1, .int (y1)), (2, .int (y2)), (3, .int (y3)), (4, .int (y4)), (5, .int (y5)), (6, .int (y6)), (7, .int (y7))] → (∀ (H : Heap) (locs : List Loc) (ls : Array Slot), zc_W g h H locs → lv_has ls 9 [(0, va_rf ((some q))), (1, .int (y1)), (2, .int (y2)), (3, .int (w.1)), (4, .int (w.2.1)), (5, .int (w.2.2)), (6, .int (y6))] → W p l e zr_X10_moves s m [va_rf ((some q)), .int (x1), .int (x2)].toArray below meth c H locs 0 0 (zc_Q g below zr_X10_moves (some (.int (res.2))) res.1 [va_rf ((some q)), .int (x1), .int (x2)] s) (F0 m 74 ls [])) → W p l e zr_X10_moves s m [va_rf ((some q)), .int (x1), .int (x2)].toArray below meth c H locs 0 0 (zc_Q g below zr_X10_moves (some (.int (res.2))) res.1 [va_rf ((some q)), .int (x1), .int (x2)] s) (F0 m 25 ls []) := by
    intro h y1 y2 y6 n
    induction n with
    | zero =>
      intro y3 y4 y5 y7 w H locs ls hf
      cases hf
    | succ n ih =>
      intro y3 y4 y5 y7 w H locs ls hf hw hl  kk
      unfold zf_X10_moves_L25 at hf
      refine lv_iload hx hb zd_X10_moves_25 (lv_at hl 7 rfl) ?_
      refine zl_aload_n hx hb zd_X10_moves_27 rfl (lv_at hl 0 rfl) ?_
      replace hf := zo_b hf; obtain ⟨v6, ev6, hf⟩ := hf
      obtain ⟨u7, u7e, u7v⟩ := zo_b ev6
      obtain rfl := zv_r_e u7v
      refine zw_get S hK hw zk_10 (k := 2) (by decide) rfl zm_1090 (Or.inl rfl) u7e zd_X10_moves_28 ?_
      refine lv_iload_n hx hb zd_X10_moves_31 rfl (lv_at hl 2 rfl) ?_
      replace hf := zo_b hf; obtain ⟨a8, na8, hf⟩ := hf
      refine W.eq (g2 := F0 m 32 ls [.int (y2), va_rf ((some a8)), .int (y7)]) (by rw [na8] <;> rfl) ?_
      replace hf := zo_b hf; obtain ⟨v9, ev9, hf⟩ := hf
      refine zw_iald S hK hw ev9 zd_X10_moves_32 ?_
      refine lv_icmp_ge (tgt := 74) hx hb zd_X10_moves_33 (by decide) (fun c10 => ?_) (fun c10 => ?_)
      · replace hf := zo_t c10 hf
        have hres := Option.some.inj hf; subst hres
        exact kk _ _ _ hw (lv_sub hl [0, 1, 2, 3, 4, 5, 6] rfl)
      · replace hf := zo_f c10 hf
        refine zl_aload_n hx hb zd_X10_moves_36 rfl (lv_at hl 0 rfl) ?_
        refine lv_iload_n hx hb zd_X10_moves_37 rfl (lv_at hl 1 rfl) ?_
        refine lv_iload hx hb zd_X10_moves_38 (lv_at hl 6 rfl) ?_
        refine lv_iload_n hx hb zd_X10_moves_40 rfl (lv_at hl 2 rfl) ?_
        refine lv_iload hx hb zd_X10_moves_41 (lv_at hl 7 rfl) ?_
        replace hf := zo_b hf; obtain ⟨r11, er11, hf⟩ := hf
        refine zw_callV (n := 4) (ci := 10) (q := zc_cl[10]) (As := [.int (y1), .int (y6), .int (y2), .int (y7)]) (rest := []) S hK hw (zt_X10_run l g h q y1 y6 y2 y7 _ er11) zm_1310 zm_1312 zm_38 zq_X10_run zm_79 (by decide +kernel) ⟨Nat.le_of_ble_eq_true rfl, Nat.le_of_ble_eq_true rfl⟩ rfl rfl rfl (zi_X10_run er11) hl.1 rfl (by simp [zv_cat, zv_ci, zv_cj]) zd_X10_moves_43 ⟨(Nat.le_refl 0), (Nat.le_refl 0)⟩ (fun H locs hw => ?_)
        replace hw : zc_W g h H locs := hw
        refine lv_istore (i := 8) (lv' := [(8, .int (r11)), (0, va_rf ((some q))), (1, .int (y1)), (2, .int (y2)), (3, .int (y3)), (4, .int (y4)), (5, .int (y5)), (6, .int (y6)), (7, .int (y7))]) hx hb zd_X10_moves_46 hl (by decide) rfl (fun ls hl => ?_)
        refine lv_iload hx hb zd_X10_moves_48 (lv_at hl 0 rfl) ?_
        refine lv_iload_n hx hb zd_X10_moves_50 rfl (lv_at hl 4 rfl) ?_
        have k68h : ∀ (y68_3 : Int32) (y68_4 : Int32) (y68_5 : Int32) (H : Heap) (locs : List Loc) (ls : Array Slot), (
            zf_X10_moves_L25 h q y1 y2 y6 n y68_3 y68_4 y68_5 (y7 + 1)
            ) = some w → zc_W g h H locs → lv_has ls 9 [(0, va_rf ((some q))), (1, .int (y1)), (2, .int (y2)), (3, .int (y68_3)), (4, .int (y68_4)), (5, .int (y68_5)), (6, .int (y6)), (7, .int (y7))] → W p l e zr_X10_moves s m [va_rf ((some q)), .int (x1), .int (x2)].toArray below meth c H locs (0 + 0) (0 + 0) (zc_Q g below zr_X10_moves (some (.int (res.2))) res.1 [va_rf ((some q)), .int (x1), .int (x2)] s) (F0 m 68 ls []) := by
          intro y68_3 y68_4 y68_5 H locs ls hf hw hl
          refine lv_iinc (i := 7) (v := (y7 + 1)) (lv' := [(7, .int ((y7 + 1))), (0, va_rf ((some q))), (1, .int (y1)), (2, .int (y2)), (3, .int (y68_3)), (4, .int (y68_4)), (5, .int (y68_5)), (6, .int (y6))]) hx hb zd_X10_moves_68 hl (k := 7) rfl (congrArg (_ + ·) (by decide)) (by decide) rfl (fun ls hl => ?_)
          refine lv_goto (tgt := 25) hx hb zd_X10_moves_71 (by decide) ?_
          exact ih y68_3 y68_4 y68_5 (y7 + 1) _ _ _ _ hf hw (lv_sub hl [1, 2, 3, 4, 5, 6, 7, 0] rfl) kk
        refine lv_icmp_gt (tgt := 57) hx hb zd_X10_moves_51 (by decide) (fun c12 => ?_) (fun c12 => ?_)
        · replace hf := zo_t c12 hf
          refine lv_iload hx hb zd_X10_moves_57 (lv_at hl 0 rfl) ?_
          refine lv_istore_n (i := 3) (lv' := [(3, .int (r11)), (8, .int (r11)), (0, va_rf ((some q))), (1, .int (y1)), (2, .int (y2)), (4, .int (y4)), (5, .int (y5)), (6, .int (y6)), (7, .int (y7))]) hx hb zd_X10_moves_59 rfl hl (by decide) rfl (fun ls hl => ?_)
          refine lv_iload hx hb zd_X10_moves_60 (lv_at hl 7 rfl) ?_
          refine lv_istore (i := 4) (lv' := [(4, .int (y6)), (3, .int (r11)), (8, .int (r11)), (0, va_rf ((some q))), (1, .int (y1)), (2, .int (y2)), (5, .int (y5)), (6, .int (y6)), (7, .int (y7))]) hx hb zd_X10_moves_62 hl (by decide) rfl (fun ls hl => ?_)
          refine lv_iload hx hb zd_X10_moves_64 (lv_at hl 8 rfl) ?_
          refine lv_istore (i := 5) (lv' := [(5, .int (y7)), (4, .int (y6)), (3, .int (r11)), (8, .int (r11)), (0, va_rf ((some q))), (1, .int (y1)), (2, .int (y2)), (6, .int (y6)), (7, .int (y7))]) hx hb zd_X10_moves_66 hl (by decide) rfl (fun ls hl => ?_)
          exact k68h r11 y6 y7 _ _ _ hf hw (lv_sub hl [4, 5, 6, 2, 1, 0, 7, 8] rfl)
        · replace hf := zo_f c12 hf
          refine lv_goto (tgt := 68) hx hb zd_X10_moves_54 (by decide) ?_
          exact k68h y3 y4 y5 _ _ _ hf hw (lv_sub hl [1, 2, 3, 4, 5, 6, 7, 8] rfl)
  have L11 : ∀ (h : zc_H) (y1 : Int32) (y2 : Int32) (n : Nat) (y3 : Int32) (y4 : Int32) (y5 : Int32) (y6 : Int32) (w : Int32 × Int32 × Int32) (H : Heap) (locs : List Loc) (ls : Array Slot), zf_X10_moves_L11 h q y1 y2 n y3 y4 y5 y6 = some w → zc_W g h H locs → lv_has ls 9 [(0, va_rf ((some q))), (1, .int (y1)), (2, .int (y2)), (3, .int (y3)), (4, .int (y4)), (5, .int (y5)), (6, .int (y6))] → (∀ (H : Heap) (locs : List Loc) (ls : Array Slot), zc_W g h H locs → lv_has ls 9 [(0, va_rf ((some q))), (3, .int (w.1)), (4, .int (w.2.1)), (5, .int (w.2.2))] → W p l e zr_X10_moves s m [va_rf ((some q)), .int (x1), .int (x2)].toArray below meth c H locs 0 0 (zc_Q g below zr_X10_moves (some (.int (res.2))) res.1 [va_rf ((some q)), .int (x1), .int (x2)] s) (F0 m 80 ls [])) → W p l e zr_X10_moves s m [va_rf ((some q)), .int (x1), .int (x2)].toArray below meth c H locs 0 0 (zc_Q g below zr_X10_moves (some (.int (res.2))) res.1 [va_rf ((some q)), .int (x1), .int (x2)] s) (F0 m 11 ls []) := by
    intro h y1 y2 n
    induction n with
    | zero =>
      intro y3 y4 y5 y6 w H locs ls hf
      cases hf
    | succ n ih =>
      intro y3 y4 y5 y6 w H locs ls hf hw hl  kk
      unfold zf_X10_moves_L11 at hf
      refine lv_iload hx hb zd_X10_moves_11 (lv_at hl 6 rfl) ?_
      refine zl_aload_n hx hb zd_X10_moves_13 rfl (lv_at hl 0 rfl) ?_
      replace hf := zo_b hf; obtain ⟨v1, ev1, hf⟩ := hf
      obtain ⟨u2, u2e, u2v⟩ := zo_b ev1
      obtain rfl := zv_r_e u2v
      refine zw_get S hK hw zk_10 (k := 2) (by decide) rfl zm_1090 (Or.inl rfl) u2e zd_X10_moves_14 ?_
      refine lv_iload_n hx hb zd_X10_moves_17 rfl (lv_at hl 1 rfl) ?_
      replace hf := zo_b hf; obtain ⟨a3, na3, hf⟩ := hf
      refine W.eq (g2 := F0 m 18 ls [.int (y1), va_rf ((some a3)), .int (y6)]) (by rw [na3] <;> rfl) ?_
      replace hf := zo_b hf; obtain ⟨v4, ev4, hf⟩ := hf
      refine zw_iald S hK hw ev4 zd_X10_moves_18 ?_
      refine lv_icmp_ge (tgt := 80) hx hb zd_X10_moves_19 (by decide) (fun c5 => ?_) (fun c5 => ?_)
      · replace hf := zo_t c5 hf
        have hres := Option.some.inj hf; subst hres
        exact kk _ _ _ hw (lv_sub hl [0, 3, 4, 5] rfl)
      · replace hf := zo_f c5 hf
        refine lv_iconst (v := 0) hx hb zd_X10_moves_22 (by decide) ?_
        refine lv_istore (i := 7) (lv' := [(7, .int (0)), (0, va_rf ((some q))), (1, .int (y1)), (2, .int (y2)), (3, .int (y3)), (4, .int (y4)), (5, .int (y5)), (6, .int (y6))]) hx hb zd_X10_moves_23 hl (by decide) rfl (fun ls hl => ?_)
        replace hf := zo_b hf; obtain ⟨w13, w13e, hf⟩ := hf
        refine L25 h y1 y2 y6 2000 y3 y4 y5 0 _ _ _ _ w13e hw (lv_sub hl [1, 2, 3, 4, 5, 6, 7, 0] rfl) (fun H locs ls hw hl => ?_)
        refine lv_iinc (i := 6) (v := (y6 + 1)) (lv' := [(6, .int ((y6 + 1))), (0, va_rf ((some q))), (1, .int (y1)), (2, .int (y2)), (3, .int (w13.1)), (4, .int (w13.2.1)), (5, .int (w13.2.2))]) hx hb zd_X10_moves_74 hl (k := 6) rfl (congrArg (_ + ·) (by decide)) (by decide) rfl (fun ls hl => ?_)
        refine lv_goto (tgt := 11) hx hb zd_X10_moves_77 (by decide) ?_
        exact ih w13.1 w13.2.1 w13.2.2 (y6 + 1) _ _ _ _ hf hw (lv_sub hl [1, 2, 3, 4, 5, 6, 0] rfl) kk
  have L95 : ∀ (y3 : Int32) (y4 : Int32) (y5 : Int32) (n : Nat) (h : zc_H) (y6 : Int32) (w : zc_H) (H : Heap) (locs : List Loc) (ls : Array Slot), zf_X10_moves_L95 q y3 y4 y5 n h y6 = some w → zc_W g h H locs → lv_has ls 9 [(0, va_rf ((some q))), (3, .int (y3)), (4, .int (y4)), (5, .int (y5)), (6, .int (y6))] → (∀ (H : Heap) (locs : List Loc) (ls : Array Slot), zc_W g w H locs → lv_has ls 9 [(0, va_rf ((some q))), (3, .int (y3))] → W p l e zr_X10_moves s m [va_rf ((some q)), .int (x1), .int (x2)].toArray below meth c H locs 0 0 (zc_Q g below zr_X10_moves (some (.int (res.2))) res.1 [va_rf ((some q)), .int (x1), .int (x2)] s) (F0 m 133 ls [])) → W p l e zr_X10_moves s m [va_rf ((some q)), .int (x1), .int (x2)].toArray below meth c H locs 0 0 (zc_Q g below zr_X10_moves (some (.int (res.2))) res.1 [va_rf ((some q)), .int (x1), .int (x2)] s) (F0 m 95 ls []) := by
    intro y3 y4 y5 n
    induction n with
    | zero =>
      intro h y6 w H locs ls hf
      cases hf
    | succ n ih =>
      intro h y6 w H locs ls hf hw hl  kk
      unfold zf_X10_moves_L95 at hf
      refine lv_iload hx hb zd_X10_moves_95 (lv_at hl 4 rfl) ?_
      refine lv_iload_n hx hb zd_X10_moves_97 rfl (lv_at hl 1 rfl) ?_
      refine lv_icmp_ge (tgt := 133) hx hb zd_X10_moves_98 (by decide) (fun c20 => ?_) (fun c20 => ?_)
      · replace hf := zo_t c20 hf
        have hres := Option.some.inj hf; subst hres
        exact kk _ _ _ hw (lv_sub hl [0, 1] rfl)
      · replace hf := zo_f c20 hf
        refine zl_aload_n hx hb zd_X10_moves_101 rfl (lv_at hl 0 rfl) ?_
        replace hf := zo_b hf; obtain ⟨v21, ev21, hf⟩ := hf
        obtain ⟨u22, u22e, u22v⟩ := zo_b ev21
        obtain rfl := zv_r_e u22v
        refine zw_get S hK hw zk_10 (k := 26) (by decide) rfl zm_1114 (Or.inl rfl) u22e zd_X10_moves_102 ?_
        refine lv_iload hx hb zd_X10_moves_105 (lv_at hl 2 rfl) ?_
        refine lv_iload hx hb zd_X10_moves_107 (lv_at hl 4 rfl) ?_
        refine lv_iadd hx hb zd_X10_moves_109 ?_
        refine lv_iload hx hb zd_X10_moves_110 (lv_at hl 3 rfl) ?_
        refine lv_iload hx hb zd_X10_moves_112 (lv_at hl 4 rfl) ?_
        refine lv_iadd hx hb zd_X10_moves_114 ?_
        replace hf := zo_b hf; obtain ⟨a23, na23, hf⟩ := hf
        refine W.eq (g2 := F0 m 115 ls [.int ((y5 + y6)), .int ((y4 + y6)), va_rf ((some a23))]) (by rw [na23] <;> rfl) ?_
        replace hf := zo_b hf; obtain ⟨h24, eh24, hf⟩ := hf
        refine zw_iast S hK hw eh24 zd_X10_moves_115 (fun H locs hw => ?_)
        refine zl_aload_n hx hb zd_X10_moves_116 rfl (lv_at hl 0 rfl) ?_
        replace hf := zo_b hf; obtain ⟨v25, ev25, hf⟩ := hf
        obtain ⟨u26, u26e, u26v⟩ := zo_b ev25
        obtain rfl := zv_r_e u26v
        refine zw_get S hK hw zk_10 (k := 27) (by decide) rfl zm_1115 (Or.inl rfl) u26e zd_X10_moves_117 ?_
        refine lv_iload hx hb zd_X10_moves_120 (lv_at hl 3 rfl) ?_
        refine lv_iload hx hb zd_X10_moves_122 (lv_at hl 4 rfl) ?_
        refine lv_iadd hx hb zd_X10_moves_124 ?_
        refine lv_iconst (v := 1) hx hb zd_X10_moves_125 (by decide) ?_
        replace hf := zo_b hf; obtain ⟨a27, na27, hf⟩ := hf
        refine W.eq (g2 := F0 m 126 ls [.int (1), .int ((y5 + y6)), va_rf ((some a27))]) (by rw [na27] <;> rfl) ?_
        replace hf := zo_b hf; obtain ⟨h28, eh28, hf⟩ := hf
        refine zw_zast S hK hw eh28 zd_X10_moves_126 (fun H locs hw => ?_)
        refine lv_iinc (i := 6) (v := (y6 + 1)) (lv' := [(6, .int ((y6 + 1))), (0, va_rf ((some q))), (3, .int (y3)), (4, .int (y4)), (5, .int (y5))]) hx hb zd_X10_moves_127 hl (k := 4) rfl (congrArg (_ + ·) (by decide)) (by decide) rfl (fun ls hl => ?_)
        refine lv_goto (tgt := 95) hx hb zd_X10_moves_130 (by decide) ?_
        exact ih h28 (y6 + 1) _ _ _ _ hf hw (lv_sub hl [1, 2, 3, 4, 0] rfl) kk
  unfold zf_X10_moves at hf
  obtain ⟨-, hf⟩ := zo_n hf
  refine lv_iconst (v := 0) hx hb zd_X10_moves_0 (by decide) ?_
  refine lv_istore_n (i := 3) (lv' := [(3, .int (0)), (0, va_rf ((some q))), (1, .int (x1)), (2, .int (x2))]) hx hb zd_X10_moves_1 rfl hl (by decide) rfl (fun ls hl => ?_)
  refine lv_iconst (v := 0) hx hb zd_X10_moves_2 (by decide) ?_
  refine lv_istore (i := 4) (lv' := [(4, .int (0)), (3, .int (0)), (0, va_rf ((some q))), (1, .int (x1)), (2, .int (x2))]) hx hb zd_X10_moves_3 hl (by decide) rfl (fun ls hl => ?_)
  refine lv_iconst (v := 0) hx hb zd_X10_moves_5 (by decide) ?_
  refine lv_istore (i := 5) (lv' := [(5, .int (0)), (4, .int (0)), (3, .int (0)), (0, va_rf ((some q))), (1, .int (x1)), (2, .int (x2))]) hx hb zd_X10_moves_6 hl (by decide) rfl (fun ls hl => ?_)
  refine lv_iconst (v := 0) hx hb zd_X10_moves_8 (by decide) ?_
  refine lv_istore (i := 6) (lv' := [(6, .int (0)), (5, .int (0)), (4, .int (0)), (3, .int (0)), (0, va_rf ((some q))), (1, .int (x1)), (2, .int (x2))]) hx hb zd_X10_moves_9 hl (by decide) rfl (fun ls hl => ?_)
  replace hf := zo_b hf; obtain ⟨w14, w14e, hf⟩ := hf
  refine L11 h x1 x2 2000 0 0 0 0 _ _ _ _ w14e hw (lv_sub hl [4, 5, 6, 3, 2, 1, 0] rfl) (fun H locs ls hw hl => ?_)
  refine lv_iload_n hx hb zd_X10_moves_80 rfl (lv_at hl 1 rfl) ?_
  refine zl_aload_n hx hb zd_X10_moves_81 rfl (lv_at hl 0 rfl) ?_
  replace hf := zo_b hf; obtain ⟨v15, ev15, hf⟩ := hf
  obtain ⟨u16, u16e, u16v⟩ := zo_b ev15
  obtain rfl := zv_r_e u16v
  refine zw_get S hK hw zk_10 (k := 7) (by decide) rfl zm_1095 (Or.inl rfl) u16e zd_X10_moves_82 ?_
  refine lv_iconst (v := 0) hx hb zd_X10_moves_85 (by decide) ?_
  replace hf := zo_b hf; obtain ⟨a17, na17, hf⟩ := hf
  refine W.eq (g2 := F0 m 86 ls [.int (0), va_rf ((some a17)), .int (w14.1)]) (by rw [na17] <;> rfl) ?_
  replace hf := zo_b hf; obtain ⟨v18, ev18, hf⟩ := hf
  refine zw_iald S hK hw ev18 zd_X10_moves_86 ?_
  refine lv_icmp_ge (tgt := 92) hx hb zd_X10_moves_87 (by decide) (fun c19 => ?_) (fun c19 => ?_)
  · replace hf := zo_t c19 hf
    refine lv_iconst (v := 0) hx hb zd_X10_moves_92 (by decide) ?_
    refine lv_istore (i := 6) (lv' := [(6, .int (0)), (0, va_rf ((some q))), (3, .int (w14.1)), (4, .int (w14.2.1)), (5, .int (w14.2.2))]) hx hb zd_X10_moves_93 hl (by decide) rfl (fun ls hl => ?_)
    replace hf := zo_b hf; obtain ⟨w29, w29e, hf⟩ := hf
    refine L95 w14.1 w14.2.1 w14.2.2 2000 h 0 _ _ _ _ w29e hw (lv_sub hl [1, 2, 3, 4, 0] rfl) (fun H locs ls hw hl => ?_)
    refine zl_aload_n hx hb zd_X10_moves_133 rfl (lv_at hl 0 rfl) ?_
    refine lv_dup hx hb zd_X10_moves_134 rfl ?_
    replace hf := zo_b hf; obtain ⟨v30, ev30, hf⟩ := hf
    obtain ⟨u31, u31e, u31v⟩ := zo_b ev30
    obtain rfl := zv_i_e u31v
    refine zw_get S hK hw zk_10 (k := 29) (by decide) rfl zm_1117 (Or.inl rfl) u31e zd_X10_moves_135 ?_
    refine lv_iload_n hx hb zd_X10_moves_138 rfl (lv_at hl 1 rfl) ?_
    refine lv_iadd hx hb zd_X10_moves_139 ?_
    replace hf := zo_b hf; obtain ⟨h32, eh32, hf⟩ := hf
    refine zw_put S hK hw zk_10 (k := 29) (by decide) rfl zm_1117 (Or.inl rfl) eh32 (ty := .int) (by decide +kernel) rfl rfl zd_X10_moves_140 (fun H locs hw => ?_)
    refine lv_iconst (v := 1) hx hb zd_X10_moves_143 (by decide) ?_
    have hres := Option.some.inj hf; subst hres
    exact zw_iret (v := 1) (ty := .boolean) hx hb hr hlk rfl hw zd_X10_moves_144 (Nat.le_refl 0) (Nat.le_refl 0)
  · replace hf := zo_f c19 hf
    refine lv_iconst (v := 0) hx hb zd_X10_moves_90 (by decide) ?_
    have hres := Option.some.inj hf; subst hres
    exact zw_iret (v := 0) (ty := .boolean) hx hb hr hlk rfl hw zd_X10_moves_91 (Nat.le_refl 0) (Nat.le_refl 0)
def zf_X10_places_L12 (q : Nat) (y1 : Int32) (y2 : Int32) : Nat → zc_H → Int32 → Option (zc_H)
  | 0, _, _ => none
  | n + 1, h, y3 =>
    if 24 ≤ y3 then
      some h
    else
    (zf_gr h q 10 26).bind fun v4 =>
    v4.bind fun a6 =>
    (zf_si h a6 0 y3 (-1)).bind fun h7 =>
    (zf_gr h7 q 10 27).bind fun v8 =>
    v8.bind fun a10 =>
    (zf_si h7 a10 2 y3 (0 &&& 1)).bind fun h11 =>
    zf_X10_places_L12 q y1 y2 n h11 (y3 + 1)
def zf_X10_places_L46 (q : Nat) (y1 : Int32) (y2 : Int32) : Nat → zc_H → Int32 → Option (zc_H)
  | 0, _, _ => none
  | n + 1, h, y3 =>
    if y3 = 0 then
      some h
    else
    (zf_X10_moves h q y1 y2).bind fun r15 =>
    zf_X10_places_L46 q y1 y2 n r15.1 r15.2
def zf_X10_places (h : zc_H) (q : Nat) (x1 : Int32) (x2 : Int32) : Option (zc_H) :=
  if ¬ zf_is h q 10 = true then none else
  (zf_p h q 10 28 (.int (0))).bind fun h1 =>
  (zf_p h1 q 10 29 (.int (0))).bind fun h2 =>
  (zf_X10_places_L12 q x1 x2 2000 h2 0).bind fun w12 =>
  (zf_X10_pairs w12 q x1 x2).bind fun r13 =>
  (zf_X10_places_L46 q x1 x2 2000 r13 1).bind fun w16 =>
  some w16
abbrev zr_X10_places : Room := { frames := 3, cells := 0, slots := 0, locals := 77 }
theorem zi_X10_places {h : zc_H} {q : Nat} {x1 : Int32} {x2 : Int32} {res : zc_H} (hf : zf_X10_places h q x1 x2 = some res) : zf_is h q 10 = true := Decidable.not_not.mp (zo_n hf).1
set_option maxHeartbeats 4000000 in
set_option maxRecDepth 20000 in
theorem zt_X10_places (l : Launch) (g : zc_G) (h : zc_H) (q : Nat) (x1 : Int32) (x2 : Int32) (res : zc_H) (hf : zf_X10_places h q x1 x2 = some res) : zc_M l g yX10_places cX10_places 4 none zr_X10_places h [va_rf ((some q)), .int (x1), .int (x2)] res none := by
  refine zc_M.of (by decide) (by simp [lg_sl, zv_cat, zv_ci, zv_cj]) ?_
  intro p e s m below meth c ls S hK hw hr hlk hnm hl
  replace S : CallFix p m c cX10_places 4 s [va_rf ((some q)), .int (x1), .int (x2)].toArray (zc_ws yX10_places cX10_places 4 none) RX10 := S
  have hx := S.1
  have hb := S.2.1
  replace hl : lv_has ls 4 [(0, va_rf ((some q))), (1, .int (x1)), (2, .int (x2))] := by simpa [lv_args, zv_cat, zv_ci, zv_cj] using hl
  generalize s.heap = H at hw ⊢
  obtain ⟨locs, hlocs⟩ : ∃ L : List Loc, L = [] := ⟨_, rfl⟩
  rw [← hlocs] at hw ⊢
  have L12 : ∀ (y1 : Int32) (y2 : Int32) (n : Nat) (h : zc_H) (y3 : Int32) (w : zc_H) (H : Heap) (locs : List Loc) (ls : Array Slot), zf_X10_places_L12 q y1 y2 n h y3 = some w → zc_W g h H locs → lv_has ls 4 [(0, va_rf ((some q))), (1, .int (y1)), (2, .int (y2)), (3, .int (y3))] → (∀ (H : Heap) (locs : List Loc) (ls : Array Slot), zc_W g w H locs → lv_has ls 4 [(0, va_rf ((some q))), (1, .int (y1)), (2, .int (y2))] → W p l e zr_X10_places s m [va_rf ((some q)), .int (x1), .int (x2)].toArray below meth c H locs 0 0 (zc_Q g below zr_X10_places none res [va_rf ((some q)), .int (x1), .int (x2)] s) (F0 m 38 ls [])) → W p l e zr_X10_places s m [va_rf ((some q)), .int (x1), .int (x2)].toArray below meth c H locs 0 0 (zc_Q g below zr_X10_places none res [va_rf ((some q)), .int (x1), .int (x2)] s) (F0 m 12 ls []) := by
    intro y1 y2 n
    induction n with
    | zero =>
      intro h y3 w H locs ls hf
      cases hf
    | succ n ih =>
      intro h y3 w H locs ls hf hw hl  kk
      unfold zf_X10_places_L12 at hf
      refine lv_iload_n hx hb zd_X10_places_12 rfl (lv_at hl 3 rfl) ?_
      refine lv_bipush (v := 24) hx hb zd_X10_places_13 (by decide) ?_
      refine lv_icmp_ge (tgt := 38) hx hb zd_X10_places_15 (by decide) (fun c3 => ?_) (fun c3 => ?_)
      · replace hf := zo_t c3 hf
        have hres := Option.some.inj hf; subst hres
        exact kk _ _ _ hw (lv_sub hl [0, 1, 2] rfl)
      · replace hf := zo_f c3 hf
        refine zl_aload_n hx hb zd_X10_places_18 rfl (lv_at hl 0 rfl) ?_
        replace hf := zo_b hf; obtain ⟨v4, ev4, hf⟩ := hf
        obtain ⟨u5, u5e, u5v⟩ := zo_b ev4
        obtain rfl := zv_r_e u5v
        refine zw_get S hK hw zk_10 (k := 26) (by decide) rfl zm_1114 (Or.inl rfl) u5e zd_X10_places_19 ?_
        refine lv_iload_n hx hb zd_X10_places_22 rfl (lv_at hl 3 rfl) ?_
        refine lv_iconst (v := (-1)) hx hb zd_X10_places_23 (by decide) ?_
        replace hf := zo_b hf; obtain ⟨a6, na6, hf⟩ := hf
        refine W.eq (g2 := F0 m 24 ls [.int ((-1)), .int (y3), va_rf ((some a6))]) (by rw [na6] <;> rfl) ?_
        replace hf := zo_b hf; obtain ⟨h7, eh7, hf⟩ := hf
        refine zw_iast S hK hw eh7 zd_X10_places_24 (fun H locs hw => ?_)
        refine zl_aload_n hx hb zd_X10_places_25 rfl (lv_at hl 0 rfl) ?_
        replace hf := zo_b hf; obtain ⟨v8, ev8, hf⟩ := hf
        obtain ⟨u9, u9e, u9v⟩ := zo_b ev8
        obtain rfl := zv_r_e u9v
        refine zw_get S hK hw zk_10 (k := 27) (by decide) rfl zm_1115 (Or.inl rfl) u9e zd_X10_places_26 ?_
        refine lv_iload_n hx hb zd_X10_places_29 rfl (lv_at hl 3 rfl) ?_
        refine lv_iconst (v := 0) hx hb zd_X10_places_30 (by decide) ?_
        replace hf := zo_b hf; obtain ⟨a10, na10, hf⟩ := hf
        refine W.eq (g2 := F0 m 31 ls [.int (0), .int (y3), va_rf ((some a10))]) (by rw [na10] <;> rfl) ?_
        replace hf := zo_b hf; obtain ⟨h11, eh11, hf⟩ := hf
        refine zw_zast S hK hw eh11 zd_X10_places_31 (fun H locs hw => ?_)
        refine lv_iinc (i := 3) (v := (y3 + 1)) (lv' := [(3, .int ((y3 + 1))), (0, va_rf ((some q))), (1, .int (y1)), (2, .int (y2))]) hx hb zd_X10_places_32 hl (k := 3) rfl (congrArg (_ + ·) (by decide)) (by decide) rfl (fun ls hl => ?_)
        refine lv_goto (tgt := 12) hx hb zd_X10_places_35 (by decide) ?_
        exact ih h11 (y3 + 1) _ _ _ _ hf hw (lv_sub hl [1, 2, 3, 0] rfl) kk
  have L46 : ∀ (y1 : Int32) (y2 : Int32) (n : Nat) (h : zc_H) (y3 : Int32) (w : zc_H) (H : Heap) (locs : List Loc) (ls : Array Slot), zf_X10_places_L46 q y1 y2 n h y3 = some w → zc_W g h H locs → lv_has ls 4 [(0, va_rf ((some q))), (1, .int (y1)), (2, .int (y2)), (3, .int (y3))] → (∀ (H : Heap) (locs : List Loc) (ls : Array Slot), zc_W g w H locs → lv_has ls 4 [] → W p l e zr_X10_places s m [va_rf ((some q)), .int (x1), .int (x2)].toArray below meth c H locs 0 0 (zc_Q g below zr_X10_places none res [va_rf ((some q)), .int (x1), .int (x2)] s) (F0 m 60 ls [])) → W p l e zr_X10_places s m [va_rf ((some q)), .int (x1), .int (x2)].toArray below meth c H locs 0 0 (zc_Q g below zr_X10_places none res [va_rf ((some q)), .int (x1), .int (x2)] s) (F0 m 46 ls []) := by
    intro y1 y2 n
    induction n with
    | zero =>
      intro h y3 w H locs ls hf
      cases hf
    | succ n ih =>
      intro h y3 w H locs ls hf hw hl  kk
      unfold zf_X10_places_L46 at hf
      refine lv_iload_n hx hb zd_X10_places_46 rfl (lv_at hl 3 rfl) ?_
      refine lv_if_eq (tgt := 60) hx hb zd_X10_places_47 (by decide) (fun c14 => ?_) (fun c14 => ?_)
      · replace hf := zo_t c14 hf
        have hres := Option.some.inj hf; subst hres
        exact kk _ _ _ hw (lv_sub hl [] rfl)
      · replace hf := zo_f c14 hf
        refine zl_aload_n hx hb zd_X10_places_50 rfl (lv_at hl 0 rfl) ?_
        refine lv_iload_n hx hb zd_X10_places_51 rfl (lv_at hl 1 rfl) ?_
        refine lv_iload_n hx hb zd_X10_places_52 rfl (lv_at hl 2 rfl) ?_
        replace hf := zo_b hf; obtain ⟨r15, er15, hf⟩ := hf
        refine zw_callV (n := 2) (ci := 10) (q := zc_cl[10]) (As := [.int (y1), .int (y2)]) (rest := []) S hK hw (zt_X10_moves l g h q y1 y2 _ er15) zm_1306 zm_1308 zm_37 zq_X10_moves zm_79 (by decide +kernel) ⟨Nat.le_of_ble_eq_true rfl, Nat.le_of_ble_eq_true rfl⟩ rfl rfl rfl (zi_X10_moves er15) hl.1 rfl (by simp [zv_cat, zv_ci, zv_cj]) zd_X10_places_53 ⟨(Nat.le_refl 0), (Nat.le_refl 0)⟩ (fun H locs hw => ?_)
        replace hw : zc_W g r15.1 H locs := hw
        refine lv_istore_n (i := 3) (lv' := [(3, .int (r15.2)), (0, va_rf ((some q))), (1, .int (y1)), (2, .int (y2))]) hx hb zd_X10_places_56 rfl hl (by decide) rfl (fun ls hl => ?_)
        refine lv_goto (tgt := 46) hx hb zd_X10_places_57 (by decide) ?_
        exact ih r15.1 r15.2 _ _ _ _ hf hw (lv_sub hl [1, 2, 3, 0] rfl) kk
  unfold zf_X10_places at hf
  obtain ⟨-, hf⟩ := zo_n hf
  refine zl_aload_n hx hb zd_X10_places_0 rfl (lv_at hl 0 rfl) ?_
  refine lv_iconst (v := 0) hx hb zd_X10_places_1 (by decide) ?_
  replace hf := zo_b hf; obtain ⟨h1, eh1, hf⟩ := hf
  refine zw_put S hK hw zk_10 (k := 28) (by decide) rfl zm_1116 (Or.inl rfl) eh1 (ty := .int) (by decide +kernel) rfl rfl zd_X10_places_2 (fun H locs hw => ?_)
  refine zl_aload_n hx hb zd_X10_places_5 rfl (lv_at hl 0 rfl) ?_
  refine lv_iconst (v := 0) hx hb zd_X10_places_6 (by decide) ?_
  replace hf := zo_b hf; obtain ⟨h2, eh2, hf⟩ := hf
  refine zw_put S hK hw zk_10 (k := 29) (by decide) rfl zm_1117 (Or.inl rfl) eh2 (ty := .int) (by decide +kernel) rfl rfl zd_X10_places_7 (fun H locs hw => ?_)
  refine lv_iconst (v := 0) hx hb zd_X10_places_10 (by decide) ?_
  refine lv_istore_n (i := 3) (lv' := [(3, .int (0)), (0, va_rf ((some q))), (1, .int (x1)), (2, .int (x2))]) hx hb zd_X10_places_11 rfl hl (by decide) rfl (fun ls hl => ?_)
  replace hf := zo_b hf; obtain ⟨w12, w12e, hf⟩ := hf
  refine L12 x1 x2 2000 h2 0 _ _ _ _ w12e hw (lv_sub hl [1, 2, 3, 0] rfl) (fun H locs ls hw hl => ?_)
  refine zl_aload_n hx hb zd_X10_places_38 rfl (lv_at hl 0 rfl) ?_
  refine lv_iload_n hx hb zd_X10_places_39 rfl (lv_at hl 1 rfl) ?_
  refine lv_iload_n hx hb zd_X10_places_40 rfl (lv_at hl 2 rfl) ?_
  replace hf := zo_b hf; obtain ⟨r13, er13, hf⟩ := hf
  refine zw_callV (n := 2) (ci := 10) (q := zc_cl[10]) (As := [.int (x1), .int (x2)]) (rest := []) S hK hw (zt_X10_pairs l g w12 q x1 x2 _ er13) zm_1297 zm_1299 zm_35 zq_X10_pairs zm_79 (by decide +kernel) ⟨Nat.le_of_ble_eq_true rfl, Nat.le_of_ble_eq_true rfl⟩ rfl rfl rfl (zi_X10_pairs er13) hl.1 rfl (by simp [zv_cat, zv_ci, zv_cj]) zd_X10_places_41 ⟨(Nat.le_refl 0), (Nat.le_refl 0)⟩ (fun H locs hw => ?_)
  replace hw : zc_W g r13 H locs := hw
  refine lv_iconst (v := 1) hx hb zd_X10_places_44 (by decide) ?_
  refine lv_istore_n (i := 3) (lv' := [(3, .int (1)), (0, va_rf ((some q))), (1, .int (x1)), (2, .int (x2))]) hx hb zd_X10_places_45 rfl hl (by decide) rfl (fun ls hl => ?_)
  replace hf := zo_b hf; obtain ⟨w16, w16e, hf⟩ := hf
  refine L46 x1 x2 2000 r13 1 _ _ _ _ w16e hw (lv_sub hl [1, 2, 3, 0] rfl) (fun H locs ls hw hl => ?_)
  have hres := Option.some.inj hf; subst hres
  exact zw_vret hx hb hr hlk hw zd_X10_places_60 (Nat.le_refl 0) (Nat.le_refl 0)
def zf_X10_learns_L24 (q : Nat) (y1 : Int32) : Nat → zc_H → Int32 → Option (zc_H)
  | 0, _, _ => none
  | n + 1, h, y2 =>
    if 24 ≤ y2 then
      some h
    else
    (zf_gr h q 10 4).bind fun v12 =>
    (zf_gr h q 10 26).bind fun v14 =>
    v14.bind fun a16 =>
    (zf_ai h a16 0 y2).bind fun v17 =>
    v12.bind fun a18 =>
    (zf_si h a18 0 ((24 * y1) + y2) v17).bind fun h19 =>
    zf_X10_learns_L24 q y1 n h19 (y2 + 1)
def zf_X10_learns (h : zc_H) (q : Nat) (x1 : Int32) : Option (zc_H) :=
  if ¬ zf_is h q 10 = true then none else
  (zf_gr h q 10 1).bind fun v1 =>
  v1.bind fun a3 =>
  (zf_ai h a3 0 x1).bind fun v4 =>
  if v4 = (-1) then
    some h
  else
  (zf_gr h q 10 1).bind fun v6 =>
  v6.bind fun a8 =>
  (zf_ai h a8 0 x1).bind fun v9 =>
  (zf_X10_places h q v9 x1).bind fun r10 =>
  (zf_X10_learns_L24 q x1 2000 r10 0).bind fun w20 =>
  some w20
abbrev zr_X10_learns : Room := { frames := 4, cells := 0, slots := 0, locals := 100 }
theorem zi_X10_learns {h : zc_H} {q : Nat} {x1 : Int32} {res : zc_H} (hf : zf_X10_learns h q x1 = some res) : zf_is h q 10 = true := Decidable.not_not.mp (zo_n hf).1
set_option maxHeartbeats 4000000 in
set_option maxRecDepth 20000 in
theorem zt_X10_learns (l : Launch) (g : zc_G) (h : zc_H) (q : Nat) (x1 : Int32) (res : zc_H) (hf : zf_X10_learns h q x1 = some res) : zc_M l g yX10_learns cX10_learns 3 none zr_X10_learns h [va_rf ((some q)), .int (x1)] res none := by
  refine zc_M.of (by decide) (by simp [lg_sl, zv_cat, zv_ci, zv_cj]) ?_
  intro p e s m below meth c ls S hK hw hr hlk hnm hl
  replace S : CallFix p m c cX10_learns 3 s [va_rf ((some q)), .int (x1)].toArray (zc_ws yX10_learns cX10_learns 3 none) RX10 := S
  have hx := S.1
  have hb := S.2.1
  replace hl : lv_has ls 3 [(0, va_rf ((some q))), (1, .int (x1))] := by simpa [lv_args, zv_cat, zv_ci, zv_cj] using hl
  generalize s.heap = H at hw ⊢
  obtain ⟨locs, hlocs⟩ : ∃ L : List Loc, L = [] := ⟨_, rfl⟩
  rw [← hlocs] at hw ⊢
  have L24 : ∀ (y1 : Int32) (n : Nat) (h : zc_H) (y2 : Int32) (w : zc_H) (H : Heap) (locs : List Loc) (ls : Array Slot), zf_X10_learns_L24 q y1 n h y2 = some w → zc_W g h H locs → lv_has ls 3 [(0, va_rf ((some q))), (1, .int (y1)), (2, .int (y2))] → (∀ (H : Heap) (locs : List Loc) (ls : Array Slot), zc_W g w H locs → lv_has ls 3 [] → W p l e zr_X10_learns s m [va_rf ((some q)), .int (x1)].toArray below meth c H locs 0 0 (zc_Q g below zr_X10_learns none res [va_rf ((some q)), .int (x1)] s) (F0 m 53 ls [])) → W p l e zr_X10_learns s m [va_rf ((some q)), .int (x1)].toArray below meth c H locs 0 0 (zc_Q g below zr_X10_learns none res [va_rf ((some q)), .int (x1)] s) (F0 m 24 ls []) := by
    intro y1 n
    induction n with
    | zero =>
      intro h y2 w H locs ls hf
      cases hf
    | succ n ih =>
      intro h y2 w H locs ls hf hw hl  kk
      unfold zf_X10_learns_L24 at hf
      refine lv_iload_n hx hb zd_X10_learns_24 rfl (lv_at hl 2 rfl) ?_
      refine lv_bipush (v := 24) hx hb zd_X10_learns_25 (by decide) ?_
      refine lv_icmp_ge (tgt := 53) hx hb zd_X10_learns_27 (by decide) (fun c11 => ?_) (fun c11 => ?_)
      · replace hf := zo_t c11 hf
        have hres := Option.some.inj hf; subst hres
        exact kk _ _ _ hw (lv_sub hl [] rfl)
      · replace hf := zo_f c11 hf
        refine zl_aload_n hx hb zd_X10_learns_30 rfl (lv_at hl 0 rfl) ?_
        replace hf := zo_b hf; obtain ⟨v12, ev12, hf⟩ := hf
        obtain ⟨u13, u13e, u13v⟩ := zo_b ev12
        obtain rfl := zv_r_e u13v
        refine zw_get S hK hw zk_10 (k := 4) (by decide) rfl zm_1092 (Or.inl rfl) u13e zd_X10_learns_31 ?_
        refine lv_bipush (v := 24) hx hb zd_X10_learns_34 (by decide) ?_
        refine lv_iload_n hx hb zd_X10_learns_36 rfl (lv_at hl 1 rfl) ?_
        refine lv_imul hx hb zd_X10_learns_37 ?_
        refine lv_iload_n hx hb zd_X10_learns_38 rfl (lv_at hl 2 rfl) ?_
        refine lv_iadd hx hb zd_X10_learns_39 ?_
        refine zl_aload_n hx hb zd_X10_learns_40 rfl (lv_at hl 0 rfl) ?_
        replace hf := zo_b hf; obtain ⟨v14, ev14, hf⟩ := hf
        obtain ⟨u15, u15e, u15v⟩ := zo_b ev14
        obtain rfl := zv_r_e u15v
        refine zw_get S hK hw zk_10 (k := 26) (by decide) rfl zm_1114 (Or.inl rfl) u15e zd_X10_learns_41 ?_
        refine lv_iload_n hx hb zd_X10_learns_44 rfl (lv_at hl 2 rfl) ?_
        replace hf := zo_b hf; obtain ⟨a16, na16, hf⟩ := hf
        refine W.eq (g2 := F0 m 45 ls [.int (y2), va_rf ((some a16)), .int (((24 * y1) + y2)), va_rf (v12)]) (by rw [na16] <;> rfl) ?_
        replace hf := zo_b hf; obtain ⟨v17, ev17, hf⟩ := hf
        refine zw_iald S hK hw ev17 zd_X10_learns_45 ?_
        replace hf := zo_b hf; obtain ⟨a18, na18, hf⟩ := hf
        refine W.eq (g2 := F0 m 46 ls [.int (v17), .int (((24 * y1) + y2)), va_rf ((some a18))]) (by rw [na18] <;> rfl) ?_
        replace hf := zo_b hf; obtain ⟨h19, eh19, hf⟩ := hf
        refine zw_iast S hK hw eh19 zd_X10_learns_46 (fun H locs hw => ?_)
        refine lv_iinc (i := 2) (v := (y2 + 1)) (lv' := [(2, .int ((y2 + 1))), (0, va_rf ((some q))), (1, .int (y1))]) hx hb zd_X10_learns_47 hl (k := 2) rfl (congrArg (_ + ·) (by decide)) (by decide) rfl (fun ls hl => ?_)
        refine lv_goto (tgt := 24) hx hb zd_X10_learns_50 (by decide) ?_
        exact ih h19 (y2 + 1) _ _ _ _ hf hw (lv_sub hl [1, 2, 0] rfl) kk
  unfold zf_X10_learns at hf
  obtain ⟨-, hf⟩ := zo_n hf
  refine zl_aload_n hx hb zd_X10_learns_0 rfl (lv_at hl 0 rfl) ?_
  replace hf := zo_b hf; obtain ⟨v1, ev1, hf⟩ := hf
  obtain ⟨u2, u2e, u2v⟩ := zo_b ev1
  obtain rfl := zv_r_e u2v
  refine zw_get S hK hw zk_10 (k := 1) (by decide) rfl zm_1089 (Or.inl rfl) u2e zd_X10_learns_1 ?_
  refine lv_iload_n hx hb zd_X10_learns_4 rfl (lv_at hl 1 rfl) ?_
  replace hf := zo_b hf; obtain ⟨a3, na3, hf⟩ := hf
  refine W.eq (g2 := F0 m 5 ls [.int (x1), va_rf ((some a3))]) (by rw [na3] <;> rfl) ?_
  replace hf := zo_b hf; obtain ⟨v4, ev4, hf⟩ := hf
  refine zw_iald S hK hw ev4 zd_X10_learns_5 ?_
  refine lv_iconst (v := (-1)) hx hb zd_X10_learns_6 (by decide) ?_
  refine lv_icmp_ne (tgt := 11) hx hb zd_X10_learns_7 (by decide) (fun c5 => ?_) (fun c5 => ?_)
  · replace hf := zo_f c5 hf
    refine zl_aload_n hx hb zd_X10_learns_11 rfl (lv_at hl 0 rfl) ?_
    refine zl_aload_n hx hb zd_X10_learns_12 rfl (lv_at hl 0 rfl) ?_
    replace hf := zo_b hf; obtain ⟨v6, ev6, hf⟩ := hf
    obtain ⟨u7, u7e, u7v⟩ := zo_b ev6
    obtain rfl := zv_r_e u7v
    refine zw_get S hK hw zk_10 (k := 1) (by decide) rfl zm_1089 (Or.inl rfl) u7e zd_X10_learns_13 ?_
    refine lv_iload_n hx hb zd_X10_learns_16 rfl (lv_at hl 1 rfl) ?_
    replace hf := zo_b hf; obtain ⟨a8, na8, hf⟩ := hf
    refine W.eq (g2 := F0 m 17 ls [.int (x1), va_rf ((some a8)), va_rf ((some q))]) (by rw [na8] <;> rfl) ?_
    replace hf := zo_b hf; obtain ⟨v9, ev9, hf⟩ := hf
    refine zw_iald S hK hw ev9 zd_X10_learns_17 ?_
    refine lv_iload_n hx hb zd_X10_learns_18 rfl (lv_at hl 1 rfl) ?_
    replace hf := zo_b hf; obtain ⟨r10, er10, hf⟩ := hf
    refine zw_callV (n := 2) (ci := 10) (q := zc_cl[10]) (As := [.int (v9), .int (x1)]) (rest := []) S hK hw (zt_X10_places l g h q v9 x1 _ er10) zm_1293 zm_1295 zm_34 zq_X10_places zm_79 (by decide +kernel) ⟨Nat.le_of_ble_eq_true rfl, Nat.le_of_ble_eq_true rfl⟩ rfl rfl rfl (zi_X10_places er10) hl.1 rfl (by simp [zv_cat, zv_ci, zv_cj]) zd_X10_learns_19 ⟨(Nat.le_refl 0), (Nat.le_refl 0)⟩ (fun H locs hw => ?_)
    replace hw : zc_W g r10 H locs := hw
    refine lv_iconst (v := 0) hx hb zd_X10_learns_22 (by decide) ?_
    refine lv_istore_n (i := 2) (lv' := [(2, .int (0)), (0, va_rf ((some q))), (1, .int (x1))]) hx hb zd_X10_learns_23 rfl hl (by decide) rfl (fun ls hl => ?_)
    replace hf := zo_b hf; obtain ⟨w20, w20e, hf⟩ := hf
    refine L24 x1 2000 r10 0 _ _ _ _ w20e hw (lv_sub hl [1, 2, 0] rfl) (fun H locs ls hw hl => ?_)
    have hres := Option.some.inj hf; subst hres
    exact zw_vret hx hb hr hlk hw zd_X10_learns_53 (Nat.le_refl 0) (Nat.le_refl 0)
  · replace hf := zo_t c5 hf
    have hres := Option.some.inj hf; subst hres
    exact zw_vret hx hb hr hlk hw zd_X10_learns_10 (Nat.le_refl 0) (Nat.le_refl 0)
def zf_X10_comesTo (h : zc_H) (q : Nat) (x1 : Int32) : Option (zc_H × Int32) :=
  if ¬ zf_is h q 10 = true then none else
  (zf_gr h q 10 1).bind fun v1 =>
  (zf_gi h q 10 0).bind fun v3 =>
  v1.bind fun a5 =>
  (zf_si h a5 0 v3 x1).bind fun h6 =>
  (zf_gi h6 q 10 0).bind fun v7 =>
  (zf_X10_learns h6 q v7).bind fun r9 =>
  (zf_gi r9 q 10 0).bind fun v10 =>
  (zf_p r9 q 10 0 (.int ((v10 + 1)))).bind fun h12 =>
  some (h12, v10)
abbrev zr_X10_comesTo : Room := { frames := 5, cells := 0, slots := 0, locals := 122 }
theorem zi_X10_comesTo {h : zc_H} {q : Nat} {x1 : Int32} {res : zc_H × Int32} (hf : zf_X10_comesTo h q x1 = some res) : zf_is h q 10 = true := Decidable.not_not.mp (zo_n hf).1
set_option maxHeartbeats 4000000 in
set_option maxRecDepth 20000 in
theorem zt_X10_comesTo (l : Launch) (g : zc_G) (h : zc_H) (q : Nat) (x1 : Int32) (res : zc_H × Int32) (hf : zf_X10_comesTo h q x1 = some res) : zc_M l g yX10_comesTo cX10_comesTo 2 (some .int) zr_X10_comesTo h [va_rf ((some q)), .int (x1)] res.1 (some (.int (res.2))) := by
  refine zc_M.of (by decide) (by simp [lg_sl, zv_cat, zv_ci, zv_cj]) ?_
  intro p e s m below meth c ls S hK hw hr hlk hnm hl
  replace S : CallFix p m c cX10_comesTo 2 s [va_rf ((some q)), .int (x1)].toArray (zc_ws yX10_comesTo cX10_comesTo 2 (some .int)) RX10 := S
  have hx := S.1
  have hb := S.2.1
  replace hl : lv_has ls 2 [(0, va_rf ((some q))), (1, .int (x1))] := by simpa [lv_args, zv_cat, zv_ci, zv_cj] using hl
  generalize s.heap = H at hw ⊢
  obtain ⟨locs, hlocs⟩ : ∃ L : List Loc, L = [] := ⟨_, rfl⟩
  rw [← hlocs] at hw ⊢
  unfold zf_X10_comesTo at hf
  obtain ⟨-, hf⟩ := zo_n hf
  refine zl_aload_n hx hb zd_X10_comesTo_0 rfl (lv_at hl 0 rfl) ?_
  replace hf := zo_b hf; obtain ⟨v1, ev1, hf⟩ := hf
  obtain ⟨u2, u2e, u2v⟩ := zo_b ev1
  obtain rfl := zv_r_e u2v
  refine zw_get S hK hw zk_10 (k := 1) (by decide) rfl zm_1089 (Or.inl rfl) u2e zd_X10_comesTo_1 ?_
  refine zl_aload_n hx hb zd_X10_comesTo_4 rfl (lv_at hl 0 rfl) ?_
  replace hf := zo_b hf; obtain ⟨v3, ev3, hf⟩ := hf
  obtain ⟨u4, u4e, u4v⟩ := zo_b ev3
  obtain rfl := zv_i_e u4v
  refine zw_get S hK hw zk_10 (k := 0) (by decide) rfl zm_1088 (Or.inl rfl) u4e zd_X10_comesTo_5 ?_
  refine lv_iload_n hx hb zd_X10_comesTo_8 rfl (lv_at hl 1 rfl) ?_
  replace hf := zo_b hf; obtain ⟨a5, na5, hf⟩ := hf
  refine W.eq (g2 := F0 m 9 ls [.int (x1), .int (v3), va_rf ((some a5))]) (by rw [na5] <;> rfl) ?_
  replace hf := zo_b hf; obtain ⟨h6, eh6, hf⟩ := hf
  refine zw_iast S hK hw eh6 zd_X10_comesTo_9 (fun H locs hw => ?_)
  refine zl_aload_n hx hb zd_X10_comesTo_10 rfl (lv_at hl 0 rfl) ?_
  refine zl_aload_n hx hb zd_X10_comesTo_11 rfl (lv_at hl 0 rfl) ?_
  replace hf := zo_b hf; obtain ⟨v7, ev7, hf⟩ := hf
  obtain ⟨u8, u8e, u8v⟩ := zo_b ev7
  obtain rfl := zv_i_e u8v
  refine zw_get S hK hw zk_10 (k := 0) (by decide) rfl zm_1088 (Or.inl rfl) u8e zd_X10_comesTo_12 ?_
  replace hf := zo_b hf; obtain ⟨r9, er9, hf⟩ := hf
  refine zw_callV (n := 1) (ci := 10) (q := zc_cl[10]) (As := [.int (v7)]) (rest := []) S hK hw (zt_X10_learns l g h6 q v7 _ er9) zm_1289 zm_1291 zm_33 zq_X10_learns zm_79 (by decide +kernel) ⟨Nat.le_of_ble_eq_true rfl, Nat.le_of_ble_eq_true rfl⟩ rfl rfl rfl (zi_X10_learns er9) hl.1 rfl (by simp [zv_cat, zv_ci, zv_cj]) zd_X10_comesTo_15 ⟨(Nat.le_refl 0), (Nat.le_refl 0)⟩ (fun H locs hw => ?_)
  replace hw : zc_W g r9 H locs := hw
  refine zl_aload_n hx hb zd_X10_comesTo_18 rfl (lv_at hl 0 rfl) ?_
  refine lv_dup hx hb zd_X10_comesTo_19 rfl ?_
  replace hf := zo_b hf; obtain ⟨v10, ev10, hf⟩ := hf
  obtain ⟨u11, u11e, u11v⟩ := zo_b ev10
  obtain rfl := zv_i_e u11v
  refine zw_get S hK hw zk_10 (k := 0) (by decide) rfl zm_1088 (Or.inl rfl) u11e zd_X10_comesTo_20 ?_
  refine lv_dup_x1 hx hb zd_X10_comesTo_23 rfl rfl ?_
  refine lv_iconst (v := 1) hx hb zd_X10_comesTo_24 (by decide) ?_
  refine lv_iadd hx hb zd_X10_comesTo_25 ?_
  replace hf := zo_b hf; obtain ⟨h12, eh12, hf⟩ := hf
  refine zw_put S hK hw zk_10 (k := 0) (by decide) rfl zm_1088 (Or.inl rfl) eh12 (ty := .int) (by decide +kernel) rfl rfl zd_X10_comesTo_26 (fun H locs hw => ?_)
  have hres := Option.some.inj hf; subst hres
  exact zw_iret (v := v10) (ty := .int) hx hb hr hlk rfl hw zd_X10_comesTo_29 (Nat.le_refl 0) (Nat.le_refl 0)
def zf_X10_revise (h : zc_H) (q : Nat) (x1 : Int32) (x2 : Int32) : Option (zc_H × Int32) :=
  if ¬ zf_is h q 10 = true then none else
  (zf_X10_noRow h q x1).bind fun r1 =>
  let k24 := fun (_ : Unit) =>
    (zf_X10_no h q (-1)).bind fun r3 =>
    some (r3.1, r3.2)
  if r1 = (-1) then
    k24 ()
  else
  let k30 := fun (_ : Unit) =>
    if 0 ≤ r1 then
      (zf_X10_reads h q x1).bind fun r6 =>
      (zf_p r6.1 q 10 12 (.int (r6.2))).bind fun h7 =>
      (zf_gi h7 q 10 12).bind fun v8 =>
      if v8 = (-1) then
        (zf_gi h7 q 10 0).bind fun v11 =>
        if v11 = 16 then
          (zf_X10_no h7 q (-7)).bind fun r15 =>
          some (r15.1, r15.2)
        else
        (zf_X10_comesTo h7 q x2).bind fun r14 =>
        some (r14.1, r14.2)
      else
      (zf_X10_no h7 q (-6)).bind fun r16 =>
      some (r16.1, r16.2)
    else
    (zf_X10_no h q r1).bind fun r17 =>
    some (r17.1, r17.2)
  if x2 = (-1) then
    k30 ()
  else
  (zf_X10_isRevision h q x2).bind fun r18 =>
  if r18 = 0 then
    k24 ()
  else
  k30 ()
abbrev zr_X10_revise : Room := { frames := 6, cells := 0, slots := 0, locals := 143 }
theorem zi_X10_revise {h : zc_H} {q : Nat} {x1 : Int32} {x2 : Int32} {res : zc_H × Int32} (hf : zf_X10_revise h q x1 x2 = some res) : zf_is h q 10 = true := Decidable.not_not.mp (zo_n hf).1
set_option maxHeartbeats 4000000 in
set_option maxRecDepth 20000 in
theorem zt_X10_revise (l : Launch) (g : zc_G) (h : zc_H) (q : Nat) (x1 : Int32) (x2 : Int32) (res : zc_H × Int32) (hf : zf_X10_revise h q x1 x2 = some res) : zc_M l g yX10_revise cX10_revise 4 (some .int) zr_X10_revise h [va_rf ((some q)), .int (x1), .int (x2)] res.1 (some (.int (res.2))) := by
  refine zc_M.of (by decide) (by simp [lg_sl, zv_cat, zv_ci, zv_cj]) ?_
  intro p e s m below meth c ls S hK hw hr hlk hnm hl
  replace S : CallFix p m c cX10_revise 4 s [va_rf ((some q)), .int (x1), .int (x2)].toArray (zc_ws yX10_revise cX10_revise 4 (some .int)) RX10 := S
  have hx := S.1
  have hb := S.2.1
  replace hl : lv_has ls 4 [(0, va_rf ((some q))), (1, .int (x1)), (2, .int (x2))] := by simpa [lv_args, zv_cat, zv_ci, zv_cj] using hl
  generalize s.heap = H at hw ⊢
  obtain ⟨locs, hlocs⟩ : ∃ L : List Loc, L = [] := ⟨_, rfl⟩
  rw [← hlocs] at hw ⊢
  unfold zf_X10_revise at hf
  obtain ⟨-, hf⟩ := zo_n hf
  refine zl_aload_n hx hb zd_X10_revise_0 rfl (lv_at hl 0 rfl) ?_
  refine lv_iload_n hx hb zd_X10_revise_1 rfl (lv_at hl 1 rfl) ?_
  replace hf := zo_b hf; obtain ⟨r1, er1, hf⟩ := hf
  refine zw_callV (n := 1) (ci := 10) (q := zc_cl[10]) (As := [.int (x1)]) (rest := []) S hK hw (zt_X10_noRow l g h q x1 _ er1) zm_1227 zm_1229 zm_25 zq_X10_noRow zm_79 (by decide +kernel) ⟨Nat.le_of_ble_eq_true rfl, Nat.le_of_ble_eq_true rfl⟩ rfl rfl rfl (zi_X10_noRow er1) hl.1 rfl (by simp [zv_cat, zv_ci, zv_cj]) zd_X10_revise_2 ⟨(Nat.le_refl 0), (Nat.le_refl 0)⟩ (fun H locs hw => ?_)
  replace hw : zc_W g h H locs := hw
  refine lv_istore_n (i := 3) (lv' := [(3, .int (r1)), (0, va_rf ((some q))), (1, .int (x1)), (2, .int (x2))]) hx hb zd_X10_revise_5 rfl hl (by decide) rfl (fun ls hl => ?_)
  refine lv_iload_n hx hb zd_X10_revise_6 rfl (lv_at hl 0 rfl) ?_
  refine lv_iconst (v := (-1)) hx hb zd_X10_revise_7 (by decide) ?_
  have k24h : ∀ (_ : Unit) (H : Heap) (locs : List Loc) (ls : Array Slot), (
      (zf_X10_no h q (-1)).bind fun r3 =>
      some (r3.1, r3.2)
      ) = some res → zc_W g h H locs → lv_has ls 4 [(0, va_rf ((some q)))] → W p l e zr_X10_revise s m [va_rf ((some q)), .int (x1), .int (x2)].toArray below meth c H locs (0 + 0) (0 + 0) (zc_Q g below zr_X10_revise (some (.int (res.2))) res.1 [va_rf ((some q)), .int (x1), .int (x2)] s) (F0 m 24 ls []) := by
    intro _ H locs ls hf hw hl
    refine zl_aload_n hx hb zd_X10_revise_24 rfl (lv_at hl 0 rfl) ?_
    refine lv_iconst (v := (-1)) hx hb zd_X10_revise_25 (by decide) ?_
    replace hf := zo_b hf; obtain ⟨r3, er3, hf⟩ := hf
    refine zw_callV (n := 1) (ci := 10) (q := zc_cl[10]) (As := [.int ((-1))]) (rest := []) S hK hw (zt_X10_no l g h q (-1) _ er3) zm_1219 zm_1221 zm_24 zq_X10_no zm_79 (by decide +kernel) ⟨Nat.le_of_ble_eq_true rfl, Nat.le_of_ble_eq_true rfl⟩ rfl rfl rfl (zi_X10_no er3) hl.1 rfl (by simp [zv_cat, zv_ci, zv_cj]) zd_X10_revise_26 ⟨(Nat.le_refl 0), (Nat.le_refl 0)⟩ (fun H locs hw => ?_)
    replace hw : zc_W g r3.1 H locs := hw
    have hres := Option.some.inj hf; subst hres
    exact zw_iret (v := r3.2) (ty := .int) hx hb hr hlk rfl hw zd_X10_revise_29 (Nat.le_refl 0) (Nat.le_refl 0)
  refine lv_icmp_eq (tgt := 24) hx hb zd_X10_revise_8 (by decide) (fun c2 => ?_) (fun c2 => ?_)
  · replace hf := zo_t c2 hf
    exact k24h () _ _ _ hf hw (lv_sub hl [1] rfl)
  · replace hf := zo_f c2 hf
    refine lv_iload_n hx hb zd_X10_revise_11 rfl (lv_at hl 3 rfl) ?_
    refine lv_iconst (v := (-1)) hx hb zd_X10_revise_12 (by decide) ?_
    have k30h : ∀ (_ : Unit) (H : Heap) (locs : List Loc) (ls : Array Slot), (
        if 0 ≤ r1 then
          (zf_X10_reads h q x1).bind fun r6 =>
          (zf_p r6.1 q 10 12 (.int (r6.2))).bind fun h7 =>
          (zf_gi h7 q 10 12).bind fun v8 =>
          if v8 = (-1) then
            (zf_gi h7 q 10 0).bind fun v11 =>
            if v11 = 16 then
              (zf_X10_no h7 q (-7)).bind fun r15 =>
              some (r15.1, r15.2)
            else
            (zf_X10_comesTo h7 q x2).bind fun r14 =>
            some (r14.1, r14.2)
          else
          (zf_X10_no h7 q (-6)).bind fun r16 =>
          some (r16.1, r16.2)
        else
        (zf_X10_no h q r1).bind fun r17 =>
        some (r17.1, r17.2)
        ) = some res → zc_W g h H locs → lv_has ls 4 [(0, va_rf ((some q))), (1, .int (x1)), (2, .int (x2)), (3, .int (r1))] → W p l e zr_X10_revise s m [va_rf ((some q)), .int (x1), .int (x2)].toArray below meth c H locs (0 + 0) (0 + 0) (zc_Q g below zr_X10_revise (some (.int (res.2))) res.1 [va_rf ((some q)), .int (x1), .int (x2)] s) (F0 m 30 ls []) := by
      intro _ H locs ls hf hw hl
      refine lv_iload_n hx hb zd_X10_revise_30 rfl (lv_at hl 3 rfl) ?_
      refine lv_if_ge (tgt := 40) hx hb zd_X10_revise_31 (by decide) (fun c5 => ?_) (fun c5 => ?_)
      · replace hf := zo_t c5 hf
        refine zl_aload_n hx hb zd_X10_revise_40 rfl (lv_at hl 0 rfl) ?_
        refine zl_aload_n hx hb zd_X10_revise_41 rfl (lv_at hl 0 rfl) ?_
        refine lv_iload_n hx hb zd_X10_revise_42 rfl (lv_at hl 1 rfl) ?_
        replace hf := zo_b hf; obtain ⟨r6, er6, hf⟩ := hf
        refine zw_callV (n := 1) (ci := 10) (q := zc_cl[10]) (As := [.int (x1)]) (rest := [va_rf ((some q))]) S hK hw (zt_X10_reads l g h q x1 _ er6) zm_1277 zm_1279 zm_30 zq_X10_reads zm_79 (by decide +kernel) ⟨Nat.le_of_ble_eq_true rfl, Nat.le_of_ble_eq_true rfl⟩ rfl rfl rfl (zi_X10_reads er6) hl.1 rfl (by simp [zv_cat, zv_ci, zv_cj]) zd_X10_revise_43 ⟨(Nat.le_refl 0), (Nat.le_refl 0)⟩ (fun H locs hw => ?_)
        replace hw : zc_W g r6.1 H locs := hw
        replace hf := zo_b hf; obtain ⟨h7, eh7, hf⟩ := hf
        refine zw_put S hK hw zk_10 (k := 12) (by decide) rfl zm_1100 (Or.inl rfl) eh7 (ty := .int) (by decide +kernel) rfl rfl zd_X10_revise_46 (fun H locs hw => ?_)
        refine zl_aload_n hx hb zd_X10_revise_49 rfl (lv_at hl 0 rfl) ?_
        replace hf := zo_b hf; obtain ⟨v8, ev8, hf⟩ := hf
        obtain ⟨u9, u9e, u9v⟩ := zo_b ev8
        obtain rfl := zv_i_e u9v
        refine zw_get S hK hw zk_10 (k := 12) (by decide) rfl zm_1100 (Or.inl rfl) u9e zd_X10_revise_50 ?_
        refine lv_iconst (v := (-1)) hx hb zd_X10_revise_53 (by decide) ?_
        refine lv_icmp_eq (tgt := 64) hx hb zd_X10_revise_54 (by decide) (fun c10 => ?_) (fun c10 => ?_)
        · replace hf := zo_t c10 hf
          refine zl_aload_n hx hb zd_X10_revise_64 rfl (lv_at hl 0 rfl) ?_
          replace hf := zo_b hf; obtain ⟨v11, ev11, hf⟩ := hf
          obtain ⟨u12, u12e, u12v⟩ := zo_b ev11
          obtain rfl := zv_i_e u12v
          refine zw_get S hK hw zk_10 (k := 0) (by decide) rfl zm_1088 (Or.inl rfl) u12e zd_X10_revise_65 ?_
          refine lv_bipush (v := 16) hx hb zd_X10_revise_68 (by decide) ?_
          refine lv_icmp_ne (tgt := 80) hx hb zd_X10_revise_70 (by decide) (fun c13 => ?_) (fun c13 => ?_)
          · replace hf := zo_f c13 hf
            refine zl_aload_n hx hb zd_X10_revise_80 rfl (lv_at hl 0 rfl) ?_
            refine lv_iload_n hx hb zd_X10_revise_81 rfl (lv_at hl 2 rfl) ?_
            replace hf := zo_b hf; obtain ⟨r14, er14, hf⟩ := hf
            refine zw_callV (n := 1) (ci := 10) (q := zc_cl[10]) (As := [.int (x2)]) (rest := []) S hK hw (zt_X10_comesTo l g h7 q x2 _ er14) zm_1285 zm_1287 zm_32 zq_X10_comesTo zm_79 (by decide +kernel) ⟨Nat.le_of_ble_eq_true rfl, Nat.le_of_ble_eq_true rfl⟩ rfl rfl rfl (zi_X10_comesTo er14) hl.1 rfl (by simp [zv_cat, zv_ci, zv_cj]) zd_X10_revise_82 ⟨(Nat.le_refl 0), (Nat.le_refl 0)⟩ (fun H locs hw => ?_)
            replace hw : zc_W g r14.1 H locs := hw
            have hres := Option.some.inj hf; subst hres
            exact zw_iret (v := r14.2) (ty := .int) hx hb hr hlk rfl hw zd_X10_revise_85 (Nat.le_refl 0) (Nat.le_refl 0)
          · replace hf := zo_t c13 hf
            refine zl_aload_n hx hb zd_X10_revise_73 rfl (lv_at hl 0 rfl) ?_
            refine lv_bipush (v := (-7)) hx hb zd_X10_revise_74 (by decide) ?_
            replace hf := zo_b hf; obtain ⟨r15, er15, hf⟩ := hf
            refine zw_callV (n := 1) (ci := 10) (q := zc_cl[10]) (As := [.int ((-7))]) (rest := []) S hK hw (zt_X10_no l g h7 q (-7) _ er15) zm_1219 zm_1221 zm_24 zq_X10_no zm_79 (by decide +kernel) ⟨Nat.le_of_ble_eq_true rfl, Nat.le_of_ble_eq_true rfl⟩ rfl rfl rfl (zi_X10_no er15) hl.1 rfl (by simp [zv_cat, zv_ci, zv_cj]) zd_X10_revise_76 ⟨(Nat.le_refl 0), (Nat.le_refl 0)⟩ (fun H locs hw => ?_)
            replace hw : zc_W g r15.1 H locs := hw
            have hres := Option.some.inj hf; subst hres
            exact zw_iret (v := r15.2) (ty := .int) hx hb hr hlk rfl hw zd_X10_revise_79 (Nat.le_refl 0) (Nat.le_refl 0)
        · replace hf := zo_f c10 hf
          refine zl_aload_n hx hb zd_X10_revise_57 rfl (lv_at hl 0 rfl) ?_
          refine lv_bipush (v := (-6)) hx hb zd_X10_revise_58 (by decide) ?_
          replace hf := zo_b hf; obtain ⟨r16, er16, hf⟩ := hf
          refine zw_callV (n := 1) (ci := 10) (q := zc_cl[10]) (As := [.int ((-6))]) (rest := []) S hK hw (zt_X10_no l g h7 q (-6) _ er16) zm_1219 zm_1221 zm_24 zq_X10_no zm_79 (by decide +kernel) ⟨Nat.le_of_ble_eq_true rfl, Nat.le_of_ble_eq_true rfl⟩ rfl rfl rfl (zi_X10_no er16) hl.1 rfl (by simp [zv_cat, zv_ci, zv_cj]) zd_X10_revise_60 ⟨(Nat.le_refl 0), (Nat.le_refl 0)⟩ (fun H locs hw => ?_)
          replace hw : zc_W g r16.1 H locs := hw
          have hres := Option.some.inj hf; subst hres
          exact zw_iret (v := r16.2) (ty := .int) hx hb hr hlk rfl hw zd_X10_revise_63 (Nat.le_refl 0) (Nat.le_refl 0)
      · replace hf := zo_f c5 hf
        refine zl_aload_n hx hb zd_X10_revise_34 rfl (lv_at hl 0 rfl) ?_
        refine lv_iload_n hx hb zd_X10_revise_35 rfl (lv_at hl 3 rfl) ?_
        replace hf := zo_b hf; obtain ⟨r17, er17, hf⟩ := hf
        refine zw_callV (n := 1) (ci := 10) (q := zc_cl[10]) (As := [.int (r1)]) (rest := []) S hK hw (zt_X10_no l g h q r1 _ er17) zm_1219 zm_1221 zm_24 zq_X10_no zm_79 (by decide +kernel) ⟨Nat.le_of_ble_eq_true rfl, Nat.le_of_ble_eq_true rfl⟩ rfl rfl rfl (zi_X10_no er17) hl.1 rfl (by simp [zv_cat, zv_ci, zv_cj]) zd_X10_revise_36 ⟨(Nat.le_refl 0), (Nat.le_refl 0)⟩ (fun H locs hw => ?_)
        replace hw : zc_W g r17.1 H locs := hw
        have hres := Option.some.inj hf; subst hres
        exact zw_iret (v := r17.2) (ty := .int) hx hb hr hlk rfl hw zd_X10_revise_39 (Nat.le_refl 0) (Nat.le_refl 0)
    refine lv_icmp_eq (tgt := 30) hx hb zd_X10_revise_13 (by decide) (fun c4 => ?_) (fun c4 => ?_)
    · replace hf := zo_t c4 hf
      exact k30h () _ _ _ hf hw (lv_sub hl [1, 2, 3, 0] rfl)
    · replace hf := zo_f c4 hf
      refine zl_aload_n hx hb zd_X10_revise_16 rfl (lv_at hl 1 rfl) ?_
      refine lv_iload_n hx hb zd_X10_revise_17 rfl (lv_at hl 3 rfl) ?_
      replace hf := zo_b hf; obtain ⟨r18, er18, hf⟩ := hf
      refine zw_callV (n := 1) (ci := 10) (q := zc_cl[10]) (As := [.int (x2)]) (rest := []) S hK hw (zt_X10_isRevision l g h q x2 _ er18) zm_1273 zm_1275 zm_29 zq_X10_isRevision zm_79 (by decide +kernel) ⟨Nat.le_of_ble_eq_true rfl, Nat.le_of_ble_eq_true rfl⟩ rfl rfl rfl (zi_X10_isRevision er18) hl.1 rfl (by simp [zv_cat, zv_ci, zv_cj]) zd_X10_revise_18 ⟨(Nat.le_refl 0), (Nat.le_refl 0)⟩ (fun H locs hw => ?_)
      replace hw : zc_W g h H locs := hw
      refine lv_if_ne (tgt := 30) hx hb zd_X10_revise_21 (by decide) (fun c19 => ?_) (fun c19 => ?_)
      · replace hf := zo_f c19 hf
        exact k30h () _ _ _ hf hw (lv_sub hl [1, 2, 3, 0] rfl)
      · replace hf := zo_t c19 hf
        exact k24h () _ _ _ hf hw (lv_sub hl [1] rfl)
def zf_X10_fault (h : zc_H) (q : Nat) : Option (Int32) :=
  if ¬ zf_is h q 10 = true then none else
  (zf_gi h q 10 12).bind fun v1 =>
  some v1
abbrev zr_X10_fault : Room := { frames := 0, cells := 0, slots := 0, locals := 0 }
theorem zi_X10_fault {h : zc_H} {q : Nat} {res : Int32} (hf : zf_X10_fault h q = some res) : zf_is h q 10 = true := Decidable.not_not.mp (zo_n hf).1
set_option maxHeartbeats 4000000 in
set_option maxRecDepth 20000 in
theorem zt_X10_fault (l : Launch) (g : zc_G) (h : zc_H) (q : Nat) (res : Int32) (hf : zf_X10_fault h q = some res) : zc_M l g yX10_fault cX10_fault 1 (some .int) zr_X10_fault h [va_rf ((some q))] h (some (.int (res))) := by
  refine zc_M.of (by decide) (by simp [lg_sl, zv_cat, zv_ci, zv_cj]) ?_
  intro p e s m below meth c ls S hK hw hr hlk hnm hl
  replace S : CallFix p m c cX10_fault 1 s [va_rf ((some q))].toArray (zc_ws yX10_fault cX10_fault 1 (some .int)) RX10 := S
  have hx := S.1
  have hb := S.2.1
  replace hl : lv_has ls 1 [(0, va_rf ((some q)))] := by simpa [lv_args, zv_cat, zv_ci, zv_cj] using hl
  generalize s.heap = H at hw ⊢
  obtain ⟨locs, hlocs⟩ : ∃ L : List Loc, L = [] := ⟨_, rfl⟩
  rw [← hlocs] at hw ⊢
  unfold zf_X10_fault at hf
  obtain ⟨-, hf⟩ := zo_n hf
  refine zl_aload_n hx hb zd_X10_fault_0 rfl (lv_at hl 0 rfl) ?_
  replace hf := zo_b hf; obtain ⟨v1, ev1, hf⟩ := hf
  obtain ⟨u2, u2e, u2v⟩ := zo_b ev1
  obtain rfl := zv_i_e u2v
  refine zw_get S hK hw zk_10 (k := 12) (by decide) rfl zm_1100 (Or.inl rfl) u2e zd_X10_fault_1 ?_
  have hres := Option.some.inj hf; subst hres
  exact zw_iret (v := v1) (ty := .int) hx hb hr hlk rfl hw zd_X10_fault_4 (Nat.le_refl 0) (Nat.le_refl 0)
def zf_X10_lines (h : zc_H) (q : Nat) (x1 : Int32) : Option (zc_H × Int32) :=
  if ¬ zf_is h q 10 = true then none else
  (zf_X10_isRevision h q x1).bind fun r1 =>
  if r1 = 0 then
    (zf_X10_no h q (-1)).bind fun r3 =>
    some (r3.1, r3.2)
  else
  (zf_gr h q 10 2).bind fun v4 =>
  v4.bind fun a6 =>
  (zf_ai h a6 0 x1).bind fun v7 =>
  some (h, v7)
abbrev zr_X10_lines : Room := { frames := 2, cells := 0, slots := 0, locals := 43 }
theorem zi_X10_lines {h : zc_H} {q : Nat} {x1 : Int32} {res : zc_H × Int32} (hf : zf_X10_lines h q x1 = some res) : zf_is h q 10 = true := Decidable.not_not.mp (zo_n hf).1
set_option maxHeartbeats 4000000 in
set_option maxRecDepth 20000 in
theorem zt_X10_lines (l : Launch) (g : zc_G) (h : zc_H) (q : Nat) (x1 : Int32) (res : zc_H × Int32) (hf : zf_X10_lines h q x1 = some res) : zc_M l g yX10_lines cX10_lines 2 (some .int) zr_X10_lines h [va_rf ((some q)), .int (x1)] res.1 (some (.int (res.2))) := by
  refine zc_M.of (by decide) (by simp [lg_sl, zv_cat, zv_ci, zv_cj]) ?_
  intro p e s m below meth c ls S hK hw hr hlk hnm hl
  replace S : CallFix p m c cX10_lines 2 s [va_rf ((some q)), .int (x1)].toArray (zc_ws yX10_lines cX10_lines 2 (some .int)) RX10 := S
  have hx := S.1
  have hb := S.2.1
  replace hl : lv_has ls 2 [(0, va_rf ((some q))), (1, .int (x1))] := by simpa [lv_args, zv_cat, zv_ci, zv_cj] using hl
  generalize s.heap = H at hw ⊢
  obtain ⟨locs, hlocs⟩ : ∃ L : List Loc, L = [] := ⟨_, rfl⟩
  rw [← hlocs] at hw ⊢
  unfold zf_X10_lines at hf
  obtain ⟨-, hf⟩ := zo_n hf
  refine zl_aload_n hx hb zd_X10_lines_0 rfl (lv_at hl 0 rfl) ?_
  refine lv_iload_n hx hb zd_X10_lines_1 rfl (lv_at hl 1 rfl) ?_
  replace hf := zo_b hf; obtain ⟨r1, er1, hf⟩ := hf
  refine zw_callV (n := 1) (ci := 10) (q := zc_cl[10]) (As := [.int (x1)]) (rest := []) S hK hw (zt_X10_isRevision l g h q x1 _ er1) zm_1273 zm_1275 zm_29 zq_X10_isRevision zm_79 (by decide +kernel) ⟨Nat.le_of_ble_eq_true rfl, Nat.le_of_ble_eq_true rfl⟩ rfl rfl rfl (zi_X10_isRevision er1) hl.1 rfl (by simp [zv_cat, zv_ci, zv_cj]) zd_X10_lines_2 ⟨(Nat.le_refl 0), (Nat.le_refl 0)⟩ (fun H locs hw => ?_)
  replace hw : zc_W g h H locs := hw
  refine lv_if_eq (tgt := 17) hx hb zd_X10_lines_5 (by decide) (fun c2 => ?_) (fun c2 => ?_)
  · replace hf := zo_t c2 hf
    refine zl_aload_n hx hb zd_X10_lines_17 rfl (lv_at hl 0 rfl) ?_
    refine lv_iconst (v := (-1)) hx hb zd_X10_lines_18 (by decide) ?_
    replace hf := zo_b hf; obtain ⟨r3, er3, hf⟩ := hf
    refine zw_callV (n := 1) (ci := 10) (q := zc_cl[10]) (As := [.int ((-1))]) (rest := []) S hK hw (zt_X10_no l g h q (-1) _ er3) zm_1219 zm_1221 zm_24 zq_X10_no zm_79 (by decide +kernel) ⟨Nat.le_of_ble_eq_true rfl, Nat.le_of_ble_eq_true rfl⟩ rfl rfl rfl (zi_X10_no er3) hl.1 rfl (by simp [zv_cat, zv_ci, zv_cj]) zd_X10_lines_19 ⟨(Nat.le_refl 0), (Nat.le_refl 0)⟩ (fun H locs hw => ?_)
    replace hw : zc_W g r3.1 H locs := hw
    have hres := Option.some.inj hf; subst hres
    exact zw_iret (v := r3.2) (ty := .int) hx hb hr hlk rfl hw zd_X10_lines_22 (Nat.le_refl 0) (Nat.le_refl 0)
  · replace hf := zo_f c2 hf
    refine zl_aload_n hx hb zd_X10_lines_8 rfl (lv_at hl 0 rfl) ?_
    replace hf := zo_b hf; obtain ⟨v4, ev4, hf⟩ := hf
    obtain ⟨u5, u5e, u5v⟩ := zo_b ev4
    obtain rfl := zv_r_e u5v
    refine zw_get S hK hw zk_10 (k := 2) (by decide) rfl zm_1090 (Or.inl rfl) u5e zd_X10_lines_9 ?_
    refine lv_iload_n hx hb zd_X10_lines_12 rfl (lv_at hl 1 rfl) ?_
    replace hf := zo_b hf; obtain ⟨a6, na6, hf⟩ := hf
    refine W.eq (g2 := F0 m 13 ls [.int (x1), va_rf ((some a6))]) (by rw [na6] <;> rfl) ?_
    replace hf := zo_b hf; obtain ⟨v7, ev7, hf⟩ := hf
    refine zw_iald S hK hw ev7 zd_X10_lines_13 ?_
    refine lv_goto (tgt := 22) hx hb zd_X10_lines_14 (by decide) ?_
    have hres := Option.some.inj hf; subst hres
    exact zw_iret (v := v7) (ty := .int) hx hb hr hlk rfl hw zd_X10_lines_22 (Nat.le_refl 0) (Nat.le_refl 0)
def zf_X10_letter (h : zc_H) (q : Nat) (x1 : Int32) (x2 : Int32) (x3 : Int32) : Option (zc_H × Int32) :=
  if ¬ zf_is h q 10 = true then none else
  (zf_X10_isRevision h q x1).bind fun r1 =>
  if r1 = 0 then
    (zf_X10_no h q (-1)).bind fun r13 =>
    some (r13.1, r13.2)
  else
  (zf_X10_isLine h q x1 x2).bind fun r3 =>
  let k33 := fun (_ : Unit) =>
    (zf_X10_no h q (-5)).bind fun r5 =>
    some (r5.1, r5.2)
  if r3 = 0 then
    k33 ()
  else
  (zf_X10_within h x3 0 8).bind fun r6 =>
  if r6 = 0 then
    k33 ()
  else
  if x3 = 8 then
    some (h, 0)
  else
  (zf_gr h q 10 3).bind fun v9 =>
  v9.bind fun a11 =>
  (zf_aj h a11 ((24 * x1) + x2)).bind fun v12 =>
  some (h, ((((((v12).toUInt64 >>> (((8 * x3) : Int32).toInt64.toUInt64 &&& Int64.toUInt64 63)).toInt64) &&& 255) : Int64).toInt32))
abbrev zr_X10_letter : Room := { frames := 2, cells := 0, slots := 0, locals := 44 }
theorem zi_X10_letter {h : zc_H} {q : Nat} {x1 : Int32} {x2 : Int32} {x3 : Int32} {res : zc_H × Int32} (hf : zf_X10_letter h q x1 x2 x3 = some res) : zf_is h q 10 = true := Decidable.not_not.mp (zo_n hf).1
set_option maxHeartbeats 4000000 in
set_option maxRecDepth 20000 in
theorem zt_X10_letter (l : Launch) (g : zc_G) (h : zc_H) (q : Nat) (x1 : Int32) (x2 : Int32) (x3 : Int32) (res : zc_H × Int32) (hf : zf_X10_letter h q x1 x2 x3 = some res) : zc_M l g yX10_letter cX10_letter 4 (some .int) zr_X10_letter h [va_rf ((some q)), .int (x1), .int (x2), .int (x3)] res.1 (some (.int (res.2))) := by
  refine zc_M.of (by decide) (by simp [lg_sl, zv_cat, zv_ci, zv_cj]) ?_
  intro p e s m below meth c ls S hK hw hr hlk hnm hl
  replace S : CallFix p m c cX10_letter 4 s [va_rf ((some q)), .int (x1), .int (x2), .int (x3)].toArray (zc_ws yX10_letter cX10_letter 4 (some .int)) RX10 := S
  have hx := S.1
  have hb := S.2.1
  replace hl : lv_has ls 4 [(0, va_rf ((some q))), (1, .int (x1)), (2, .int (x2)), (3, .int (x3))] := by simpa [lv_args, zv_cat, zv_ci, zv_cj] using hl
  generalize s.heap = H at hw ⊢
  obtain ⟨locs, hlocs⟩ : ∃ L : List Loc, L = [] := ⟨_, rfl⟩
  rw [← hlocs] at hw ⊢
  unfold zf_X10_letter at hf
  obtain ⟨-, hf⟩ := zo_n hf
  refine zl_aload_n hx hb zd_X10_letter_0 rfl (lv_at hl 0 rfl) ?_
  refine lv_iload_n hx hb zd_X10_letter_1 rfl (lv_at hl 1 rfl) ?_
  replace hf := zo_b hf; obtain ⟨r1, er1, hf⟩ := hf
  refine zw_callV (n := 1) (ci := 10) (q := zc_cl[10]) (As := [.int (x1)]) (rest := []) S hK hw (zt_X10_isRevision l g h q x1 _ er1) zm_1273 zm_1275 zm_29 zq_X10_isRevision zm_79 (by decide +kernel) ⟨Nat.le_of_ble_eq_true rfl, Nat.le_of_ble_eq_true rfl⟩ rfl rfl rfl (zi_X10_isRevision er1) hl.1 rfl (by simp [zv_cat, zv_ci, zv_cj]) zd_X10_letter_2 ⟨(Nat.le_refl 0), (Nat.le_refl 0)⟩ (fun H locs hw => ?_)
  replace hw : zc_W g h H locs := hw
  refine lv_if_ne (tgt := 14) hx hb zd_X10_letter_5 (by decide) (fun c2 => ?_) (fun c2 => ?_)
  · replace hf := zo_f c2 hf
    refine zl_aload_n hx hb zd_X10_letter_14 rfl (lv_at hl 0 rfl) ?_
    refine lv_iload_n hx hb zd_X10_letter_15 rfl (lv_at hl 1 rfl) ?_
    refine lv_iload_n hx hb zd_X10_letter_16 rfl (lv_at hl 2 rfl) ?_
    replace hf := zo_b hf; obtain ⟨r3, er3, hf⟩ := hf
    refine zw_callV (n := 2) (ci := 10) (q := zc_cl[10]) (As := [.int (x1), .int (x2)]) (rest := []) S hK hw (zt_X10_isLine l g h q x1 x2 _ er3) zm_1326 zm_1328 zm_39 zq_X10_isLine zm_79 (by decide +kernel) ⟨Nat.le_of_ble_eq_true rfl, Nat.le_of_ble_eq_true rfl⟩ rfl rfl rfl (zi_X10_isLine er3) hl.1 rfl (by simp [zv_cat, zv_ci, zv_cj]) zd_X10_letter_17 ⟨(Nat.le_refl 0), (Nat.le_refl 0)⟩ (fun H locs hw => ?_)
    replace hw : zc_W g h H locs := hw
    have k33h : ∀ (_ : Unit) (H : Heap) (locs : List Loc) (ls : Array Slot), (
        (zf_X10_no h q (-5)).bind fun r5 =>
        some (r5.1, r5.2)
        ) = some res → zc_W g h H locs → lv_has ls 4 [(0, va_rf ((some q)))] → W p l e zr_X10_letter s m [va_rf ((some q)), .int (x1), .int (x2), .int (x3)].toArray below meth c H locs ((0 + 0) + 0) ((0 + 0) + 0) (zc_Q g below zr_X10_letter (some (.int (res.2))) res.1 [va_rf ((some q)), .int (x1), .int (x2), .int (x3)] s) (F0 m 33 ls []) := by
      intro _ H locs ls hf hw hl
      refine zl_aload_n hx hb zd_X10_letter_33 rfl (lv_at hl 0 rfl) ?_
      refine lv_bipush (v := (-5)) hx hb zd_X10_letter_34 (by decide) ?_
      replace hf := zo_b hf; obtain ⟨r5, er5, hf⟩ := hf
      refine zw_callV (n := 1) (ci := 10) (q := zc_cl[10]) (As := [.int ((-5))]) (rest := []) S hK hw (zt_X10_no l g h q (-5) _ er5) zm_1219 zm_1221 zm_24 zq_X10_no zm_79 (by decide +kernel) ⟨Nat.le_of_ble_eq_true rfl, Nat.le_of_ble_eq_true rfl⟩ rfl rfl rfl (zi_X10_no er5) hl.1 rfl (by simp [zv_cat, zv_ci, zv_cj]) zd_X10_letter_36 ⟨(Nat.le_refl 0), (Nat.le_refl 0)⟩ (fun H locs hw => ?_)
      replace hw : zc_W g r5.1 H locs := hw
      have hres := Option.some.inj hf; subst hres
      exact zw_iret (v := r5.2) (ty := .int) hx hb hr hlk rfl hw zd_X10_letter_39 (Nat.le_refl 0) (Nat.le_refl 0)
    refine lv_if_eq (tgt := 33) hx hb zd_X10_letter_20 (by decide) (fun c4 => ?_) (fun c4 => ?_)
    · replace hf := zo_t c4 hf
      exact k33h () _ _ _ hf hw (lv_sub hl [0] rfl)
    · replace hf := zo_f c4 hf
      refine lv_iload_n hx hb zd_X10_letter_23 rfl (lv_at hl 3 rfl) ?_
      refine lv_iconst (v := 0) hx hb zd_X10_letter_24 (by decide) ?_
      refine lv_bipush (v := 8) hx hb zd_X10_letter_25 (by decide) ?_
      replace hf := zo_b hf; obtain ⟨r6, er6, hf⟩ := hf
      refine zw_callS (n := 3) (As := [.int (x3), .int (0), .int (8)]) (rest := []) S hK hw (zt_X10_within l g h x3 0 8 _ er6) zm_1216 zm_1217 zq_X10_within zm_79 (by decide +kernel) ⟨Nat.le_of_ble_eq_true rfl, Nat.le_of_ble_eq_true rfl⟩ rfl hl.1 rfl (by simp [zv_cat, zv_ci, zv_cj]) zd_X10_letter_27 ⟨(Nat.le_refl 0), (Nat.le_refl 0)⟩ (fun H locs hw => ?_)
      replace hw : zc_W g h H locs := hw
      refine lv_if_ne (tgt := 40) hx hb zd_X10_letter_30 (by decide) (fun c7 => ?_) (fun c7 => ?_)
      · replace hf := zo_f c7 hf
        refine lv_iload_n hx hb zd_X10_letter_40 rfl (lv_at hl 3 rfl) ?_
        refine lv_bipush (v := 8) hx hb zd_X10_letter_41 (by decide) ?_
        refine lv_icmp_ne (tgt := 50) hx hb zd_X10_letter_43 (by decide) (fun c8 => ?_) (fun c8 => ?_)
        · replace hf := zo_f c8 hf
          refine zl_aload_n hx hb zd_X10_letter_50 rfl (lv_at hl 0 rfl) ?_
          replace hf := zo_b hf; obtain ⟨v9, ev9, hf⟩ := hf
          obtain ⟨u10, u10e, u10v⟩ := zo_b ev9
          obtain rfl := zv_r_e u10v
          refine zw_get S hK hw zk_10 (k := 3) (by decide) rfl zm_1091 (Or.inl rfl) u10e zd_X10_letter_51 ?_
          refine lv_bipush (v := 24) hx hb zd_X10_letter_54 (by decide) ?_
          refine lv_iload_n hx hb zd_X10_letter_56 rfl (lv_at hl 1 rfl) ?_
          refine lv_imul hx hb zd_X10_letter_57 ?_
          refine lv_iload_n hx hb zd_X10_letter_58 rfl (lv_at hl 2 rfl) ?_
          refine lv_iadd hx hb zd_X10_letter_59 ?_
          replace hf := zo_b hf; obtain ⟨a11, na11, hf⟩ := hf
          refine W.eq (g2 := F0 m 60 ls [.int (((24 * x1) + x2)), va_rf ((some a11))]) (by rw [na11] <;> rfl) ?_
          replace hf := zo_b hf; obtain ⟨v12, ev12, hf⟩ := hf
          refine zw_lald S hK hw ev12 zd_X10_letter_60 ?_
          refine lv_bipush (v := 8) hx hb zd_X10_letter_61 (by decide) ?_
          refine lv_iload_n hx hb zd_X10_letter_63 rfl (lv_at hl 3 rfl) ?_
          refine lv_imul hx hb zd_X10_letter_64 ?_
          refine lv_lushr (v := (((v12).toUInt64 >>> (((8 * x3) : Int32).toInt64.toUInt64 &&& Int64.toUInt64 63)).toInt64)) hx hb zd_X10_letter_65 rfl ?_
          refine lv_ldc2 (v := 255) hx hb S.2.2.2.1 (S.2.2.2.2 _ (List.mem_cons_of_mem _ zm_1330)) zd_X10_letter_66 ?_
          refine lv_land hx hb zd_X10_letter_69 ?_
          refine lv_l2i (v := ((((((v12).toUInt64 >>> (((8 * x3) : Int32).toInt64.toUInt64 &&& Int64.toUInt64 63)).toInt64) &&& 255) : Int64).toInt32)) hx hb zd_X10_letter_70 rfl ?_
          have hres := Option.some.inj hf; subst hres
          exact zw_iret (v := ((((((v12).toUInt64 >>> (((8 * x3) : Int32).toInt64.toUInt64 &&& Int64.toUInt64 63)).toInt64) &&& 255) : Int64).toInt32)) (ty := .int) hx hb hr hlk rfl hw zd_X10_letter_71 (Nat.le_refl 0) (Nat.le_refl 0)
        · replace hf := zo_t c8 hf
          refine lv_iconst (v := 0) hx hb zd_X10_letter_46 (by decide) ?_
          refine lv_goto (tgt := 71) hx hb zd_X10_letter_47 (by decide) ?_
          have hres := Option.some.inj hf; subst hres
          exact zw_iret (v := 0) (ty := .int) hx hb hr hlk rfl hw zd_X10_letter_71 (Nat.le_refl 0) (Nat.le_refl 0)
      · replace hf := zo_t c7 hf
        exact k33h () _ _ _ hf hw (lv_sub hl [0] rfl)
  · replace hf := zo_t c2 hf
    refine zl_aload_n hx hb zd_X10_letter_8 rfl (lv_at hl 0 rfl) ?_
    refine lv_iconst (v := (-1)) hx hb zd_X10_letter_9 (by decide) ?_
    replace hf := zo_b hf; obtain ⟨r13, er13, hf⟩ := hf
    refine zw_callV (n := 1) (ci := 10) (q := zc_cl[10]) (As := [.int ((-1))]) (rest := []) S hK hw (zt_X10_no l g h q (-1) _ er13) zm_1219 zm_1221 zm_24 zq_X10_no zm_79 (by decide +kernel) ⟨Nat.le_of_ble_eq_true rfl, Nat.le_of_ble_eq_true rfl⟩ rfl rfl rfl (zi_X10_no er13) hl.1 rfl (by simp [zv_cat, zv_ci, zv_cj]) zd_X10_letter_10 ⟨(Nat.le_refl 0), (Nat.le_refl 0)⟩ (fun H locs hw => ?_)
    replace hw : zc_W g r13.1 H locs := hw
    have hres := Option.some.inj hf; subst hres
    exact zw_iret (v := r13.2) (ty := .int) hx hb hr hlk rfl hw zd_X10_letter_13 (Nat.le_refl 0) (Nat.le_refl 0)
def zf_X10_former (h : zc_H) (q : Nat) (x1 : Int32) : Option (zc_H × Int32) :=
  if ¬ zf_is h q 10 = true then none else
  (zf_X10_isRevision h q x1).bind fun r1 =>
  if r1 = 0 then
    (zf_X10_no10 h q (-1)).bind fun r3 =>
    some (r3.1, r3.2)
  else
  (zf_gr h q 10 1).bind fun v4 =>
  v4.bind fun a6 =>
  (zf_ai h a6 0 x1).bind fun v7 =>
  some (h, v7)
abbrev zr_X10_former : Room := { frames := 2, cells := 0, slots := 0, locals := 43 }
theorem zi_X10_former {h : zc_H} {q : Nat} {x1 : Int32} {res : zc_H × Int32} (hf : zf_X10_former h q x1 = some res) : zf_is h q 10 = true := Decidable.not_not.mp (zo_n hf).1
set_option maxHeartbeats 4000000 in
set_option maxRecDepth 20000 in
theorem zt_X10_former (l : Launch) (g : zc_G) (h : zc_H) (q : Nat) (x1 : Int32) (res : zc_H × Int32) (hf : zf_X10_former h q x1 = some res) : zc_M l g yX10_former cX10_former 2 (some .int) zr_X10_former h [va_rf ((some q)), .int (x1)] res.1 (some (.int (res.2))) := by
  refine zc_M.of (by decide) (by simp [lg_sl, zv_cat, zv_ci, zv_cj]) ?_
  intro p e s m below meth c ls S hK hw hr hlk hnm hl
  replace S : CallFix p m c cX10_former 2 s [va_rf ((some q)), .int (x1)].toArray (zc_ws yX10_former cX10_former 2 (some .int)) RX10 := S
  have hx := S.1
  have hb := S.2.1
  replace hl : lv_has ls 2 [(0, va_rf ((some q))), (1, .int (x1))] := by simpa [lv_args, zv_cat, zv_ci, zv_cj] using hl
  generalize s.heap = H at hw ⊢
  obtain ⟨locs, hlocs⟩ : ∃ L : List Loc, L = [] := ⟨_, rfl⟩
  rw [← hlocs] at hw ⊢
  unfold zf_X10_former at hf
  obtain ⟨-, hf⟩ := zo_n hf
  refine zl_aload_n hx hb zd_X10_former_0 rfl (lv_at hl 0 rfl) ?_
  refine lv_iload_n hx hb zd_X10_former_1 rfl (lv_at hl 1 rfl) ?_
  replace hf := zo_b hf; obtain ⟨r1, er1, hf⟩ := hf
  refine zw_callV (n := 1) (ci := 10) (q := zc_cl[10]) (As := [.int (x1)]) (rest := []) S hK hw (zt_X10_isRevision l g h q x1 _ er1) zm_1273 zm_1275 zm_29 zq_X10_isRevision zm_79 (by decide +kernel) ⟨Nat.le_of_ble_eq_true rfl, Nat.le_of_ble_eq_true rfl⟩ rfl rfl rfl (zi_X10_isRevision er1) hl.1 rfl (by simp [zv_cat, zv_ci, zv_cj]) zd_X10_former_2 ⟨(Nat.le_refl 0), (Nat.le_refl 0)⟩ (fun H locs hw => ?_)
  replace hw : zc_W g h H locs := hw
  refine lv_if_eq (tgt := 17) hx hb zd_X10_former_5 (by decide) (fun c2 => ?_) (fun c2 => ?_)
  · replace hf := zo_t c2 hf
    refine zl_aload_n hx hb zd_X10_former_17 rfl (lv_at hl 0 rfl) ?_
    refine lv_iconst (v := (-1)) hx hb zd_X10_former_18 (by decide) ?_
    replace hf := zo_b hf; obtain ⟨r3, er3, hf⟩ := hf
    refine zw_callV (n := 1) (ci := 10) (q := zc_cl[10]) (As := [.int ((-1))]) (rest := []) S hK hw (zt_X10_no10 l g h q (-1) _ er3) zm_1335 zm_1337 zm_40 zq_X10_no10 zm_79 (by decide +kernel) ⟨Nat.le_of_ble_eq_true rfl, Nat.le_of_ble_eq_true rfl⟩ rfl rfl rfl (zi_X10_no10 er3) hl.1 rfl (by simp [zv_cat, zv_ci, zv_cj]) zd_X10_former_19 ⟨(Nat.le_refl 0), (Nat.le_refl 0)⟩ (fun H locs hw => ?_)
    replace hw : zc_W g r3.1 H locs := hw
    have hres := Option.some.inj hf; subst hres
    exact zw_iret (v := r3.2) (ty := .int) hx hb hr hlk rfl hw zd_X10_former_22 (Nat.le_refl 0) (Nat.le_refl 0)
  · replace hf := zo_f c2 hf
    refine zl_aload_n hx hb zd_X10_former_8 rfl (lv_at hl 0 rfl) ?_
    replace hf := zo_b hf; obtain ⟨v4, ev4, hf⟩ := hf
    obtain ⟨u5, u5e, u5v⟩ := zo_b ev4
    obtain rfl := zv_r_e u5v
    refine zw_get S hK hw zk_10 (k := 1) (by decide) rfl zm_1089 (Or.inl rfl) u5e zd_X10_former_9 ?_
    refine lv_iload_n hx hb zd_X10_former_12 rfl (lv_at hl 1 rfl) ?_
    replace hf := zo_b hf; obtain ⟨a6, na6, hf⟩ := hf
    refine W.eq (g2 := F0 m 13 ls [.int (x1), va_rf ((some a6))]) (by rw [na6] <;> rfl) ?_
    replace hf := zo_b hf; obtain ⟨v7, ev7, hf⟩ := hf
    refine zw_iald S hK hw ev7 zd_X10_former_13 ?_
    refine lv_goto (tgt := 22) hx hb zd_X10_former_14 (by decide) ?_
    have hres := Option.some.inj hf; subst hres
    exact zw_iret (v := v7) (ty := .int) hx hb hr hlk rfl hw zd_X10_former_22 (Nat.le_refl 0) (Nat.le_refl 0)
def zf_X10_rule_L74 (q : Nat) (y3 : Int32) : Nat → zc_H → Int32 → Option (zc_H)
  | 0, _, _ => none
  | n + 1, h, y4 =>
    (zf_gi h q 10 0).bind fun v17 =>
    if v17 ≤ y4 then
      some h
    else
    (zf_X10_learns h q y4).bind fun r20 =>
    zf_X10_rule_L74 q y3 n r20 (y4 + 1)
def zf_X10_rule (h : zc_H) (q : Nat) (x1 : Int32) (x2 : Int32) : Option (zc_H × Int32) :=
  if ¬ zf_is h q 10 = true then none else
  (zf_X10_within h x1 0 2).bind fun r1 =>
  let k46 := fun (_ : Unit) =>
    (zf_X10_no h q (-6)).bind fun r3 =>
    some (r3.1, r3.2)
  if r1 = 0 then
    k46 ()
  else
  let k19 := fun (s19_0 : Int32) (s19_1 : Int32) =>
    let k40 := fun (s40_0 : Int32) (s40_1 : Int32) (s40_2 : Int32) =>
      (zf_X10_within h s40_2 s40_1 s40_0).bind fun r6 =>
      if r6 = 0 then
        k46 ()
      else
      (zf_gr h q 10 7).bind fun v8 =>
      v8.bind fun a10 =>
      (zf_ai h a10 0 x1).bind fun v11 =>
      (zf_gr h q 10 7).bind fun v12 =>
      v12.bind fun a14 =>
      (zf_si h a14 0 x1 x2).bind fun h15 =>
      if x1 = 0 then
        (zf_X10_rule_L74 q v11 2000 h15 0).bind fun w21 =>
        some (w21, v11)
      else
      some (h15, v11)
    if x1 = 0 then
      k40 9 s19_0 s19_1
    else
    if x1 = 1 then
      k40 99 s19_0 s19_1
    else
    k40 20 s19_0 s19_1
  if x1 = 0 then
    k19 1 x2
  else
  k19 0 x2
abbrev zr_X10_rule : Room := { frames := 5, cells := 0, slots := 0, locals := 122 }
theorem zi_X10_rule {h : zc_H} {q : Nat} {x1 : Int32} {x2 : Int32} {res : zc_H × Int32} (hf : zf_X10_rule h q x1 x2 = some res) : zf_is h q 10 = true := Decidable.not_not.mp (zo_n hf).1
set_option maxHeartbeats 4000000 in
set_option maxRecDepth 20000 in
theorem zt_X10_rule (l : Launch) (g : zc_G) (h : zc_H) (q : Nat) (x1 : Int32) (x2 : Int32) (res : zc_H × Int32) (hf : zf_X10_rule h q x1 x2 = some res) : zc_M l g yX10_rule cX10_rule 5 (some .int) zr_X10_rule h [va_rf ((some q)), .int (x1), .int (x2)] res.1 (some (.int (res.2))) := by
  refine zc_M.of (by decide) (by simp [lg_sl, zv_cat, zv_ci, zv_cj]) ?_
  intro p e s m below meth c ls S hK hw hr hlk hnm hl
  replace S : CallFix p m c cX10_rule 5 s [va_rf ((some q)), .int (x1), .int (x2)].toArray (zc_ws yX10_rule cX10_rule 5 (some .int)) RX10 := S
  have hx := S.1
  have hb := S.2.1
  replace hl : lv_has ls 5 [(0, va_rf ((some q))), (1, .int (x1)), (2, .int (x2))] := by simpa [lv_args, zv_cat, zv_ci, zv_cj] using hl
  generalize s.heap = H at hw ⊢
  obtain ⟨locs, hlocs⟩ : ∃ L : List Loc, L = [] := ⟨_, rfl⟩
  rw [← hlocs] at hw ⊢
  have L74 : ∀ (y3 : Int32) (n : Nat) (h : zc_H) (y4 : Int32) (w : zc_H) (H : Heap) (locs : List Loc) (ls : Array Slot), zf_X10_rule_L74 q y3 n h y4 = some w → zc_W g h H locs → lv_has ls 5 [(0, va_rf ((some q))), (3, .int (y3)), (4, .int (y4))] → (∀ (H : Heap) (locs : List Loc) (ls : Array Slot), zc_W g w H locs → lv_has ls 5 [(3, .int (y3))] → W p l e zr_X10_rule s m [va_rf ((some q)), .int (x1), .int (x2)].toArray below meth c H locs 0 0 (zc_Q g below zr_X10_rule (some (.int (res.2))) res.1 [va_rf ((some q)), .int (x1), .int (x2)] s) (F0 m 95 ls [])) → W p l e zr_X10_rule s m [va_rf ((some q)), .int (x1), .int (x2)].toArray below meth c H locs 0 0 (zc_Q g below zr_X10_rule (some (.int (res.2))) res.1 [va_rf ((some q)), .int (x1), .int (x2)] s) (F0 m 74 ls []) := by
    intro y3 n
    induction n with
    | zero =>
      intro h y4 w H locs ls hf
      cases hf
    | succ n ih =>
      intro h y4 w H locs ls hf hw hl  kk
      unfold zf_X10_rule_L74 at hf
      refine lv_iload hx hb zd_X10_rule_74 (lv_at hl 2 rfl) ?_
      refine zl_aload_n hx hb zd_X10_rule_76 rfl (lv_at hl 0 rfl) ?_
      replace hf := zo_b hf; obtain ⟨v17, ev17, hf⟩ := hf
      obtain ⟨u18, u18e, u18v⟩ := zo_b ev17
      obtain rfl := zv_i_e u18v
      refine zw_get S hK hw zk_10 (k := 0) (by decide) rfl zm_1088 (Or.inl rfl) u18e zd_X10_rule_77 ?_
      refine lv_icmp_ge (tgt := 95) hx hb zd_X10_rule_80 (by decide) (fun c19 => ?_) (fun c19 => ?_)
      · replace hf := zo_t c19 hf
        have hres := Option.some.inj hf; subst hres
        exact kk _ _ _ hw (lv_sub hl [1] rfl)
      · replace hf := zo_f c19 hf
        refine zl_aload_n hx hb zd_X10_rule_83 rfl (lv_at hl 0 rfl) ?_
        refine lv_iload hx hb zd_X10_rule_84 (lv_at hl 2 rfl) ?_
        replace hf := zo_b hf; obtain ⟨r20, er20, hf⟩ := hf
        refine zw_callV (n := 1) (ci := 10) (q := zc_cl[10]) (As := [.int (y4)]) (rest := []) S hK hw (zt_X10_learns l g h q y4 _ er20) zm_1289 zm_1291 zm_33 zq_X10_learns zm_79 (by decide +kernel) ⟨Nat.le_of_ble_eq_true rfl, Nat.le_of_ble_eq_true rfl⟩ rfl rfl rfl (zi_X10_learns er20) hl.1 rfl (by simp [zv_cat, zv_ci, zv_cj]) zd_X10_rule_86 ⟨(Nat.le_refl 0), (Nat.le_refl 0)⟩ (fun H locs hw => ?_)
        replace hw : zc_W g r20 H locs := hw
        refine lv_iinc (i := 4) (v := (y4 + 1)) (lv' := [(4, .int ((y4 + 1))), (0, va_rf ((some q))), (3, .int (y3))]) hx hb zd_X10_rule_89 hl (k := 2) rfl (congrArg (_ + ·) (by decide)) (by decide) rfl (fun ls hl => ?_)
        refine lv_goto (tgt := 74) hx hb zd_X10_rule_92 (by decide) ?_
        exact ih r20 (y4 + 1) _ _ _ _ hf hw (lv_sub hl [1, 2, 0] rfl) kk
  unfold zf_X10_rule at hf
  obtain ⟨-, hf⟩ := zo_n hf
  refine lv_iload_n hx hb zd_X10_rule_0 rfl (lv_at hl 1 rfl) ?_
  refine lv_iconst (v := 0) hx hb zd_X10_rule_1 (by decide) ?_
  refine lv_iconst (v := 2) hx hb zd_X10_rule_2 (by decide) ?_
  replace hf := zo_b hf; obtain ⟨r1, er1, hf⟩ := hf
  refine zw_callS (n := 3) (As := [.int (x1), .int (0), .int (2)]) (rest := []) S hK hw (zt_X10_within l g h x1 0 2 _ er1) zm_1216 zm_1217 zq_X10_within zm_79 (by decide +kernel) ⟨Nat.le_of_ble_eq_true rfl, Nat.le_of_ble_eq_true rfl⟩ rfl hl.1 rfl (by simp [zv_cat, zv_ci, zv_cj]) zd_X10_rule_3 ⟨(Nat.le_refl 0), (Nat.le_refl 0)⟩ (fun H locs hw => ?_)
  replace hw : zc_W g h H locs := hw
  have k46h : ∀ (_ : Unit) (H : Heap) (locs : List Loc) (ls : Array Slot), (
      (zf_X10_no h q (-6)).bind fun r3 =>
      some (r3.1, r3.2)
      ) = some res → zc_W g h H locs → lv_has ls 5 [(0, va_rf ((some q)))] → W p l e zr_X10_rule s m [va_rf ((some q)), .int (x1), .int (x2)].toArray below meth c H locs (0 + 0) (0 + 0) (zc_Q g below zr_X10_rule (some (.int (res.2))) res.1 [va_rf ((some q)), .int (x1), .int (x2)] s) (F0 m 46 ls []) := by
    intro _ H locs ls hf hw hl
    refine zl_aload_n hx hb zd_X10_rule_46 rfl (lv_at hl 0 rfl) ?_
    refine lv_bipush (v := (-6)) hx hb zd_X10_rule_47 (by decide) ?_
    replace hf := zo_b hf; obtain ⟨r3, er3, hf⟩ := hf
    refine zw_callV (n := 1) (ci := 10) (q := zc_cl[10]) (As := [.int ((-6))]) (rest := []) S hK hw (zt_X10_no l g h q (-6) _ er3) zm_1219 zm_1221 zm_24 zq_X10_no zm_79 (by decide +kernel) ⟨Nat.le_of_ble_eq_true rfl, Nat.le_of_ble_eq_true rfl⟩ rfl rfl rfl (zi_X10_no er3) hl.1 rfl (by simp [zv_cat, zv_ci, zv_cj]) zd_X10_rule_49 ⟨(Nat.le_refl 0), (Nat.le_refl 0)⟩ (fun H locs hw => ?_)
    replace hw : zc_W g r3.1 H locs := hw
    have hres := Option.some.inj hf; subst hres
    exact zw_iret (v := r3.2) (ty := .int) hx hb hr hlk rfl hw zd_X10_rule_52 (Nat.le_refl 0) (Nat.le_refl 0)
  refine lv_if_eq (tgt := 46) hx hb zd_X10_rule_6 (by decide) (fun c2 => ?_) (fun c2 => ?_)
  · replace hf := zo_t c2 hf
    exact k46h () _ _ _ hf hw (lv_sub hl [0] rfl)
  · replace hf := zo_f c2 hf
    refine lv_iload_n hx hb zd_X10_rule_9 rfl (lv_at hl 2 rfl) ?_
    refine lv_iload_n hx hb zd_X10_rule_10 rfl (lv_at hl 1 rfl) ?_
    have k19h : ∀ (s19_0 : Int32) (s19_1 : Int32) (H : Heap) (locs : List Loc) (ls : Array Slot), (
        let k46 := fun (_ : Unit) =>
          (zf_X10_no h q (-6)).bind fun r3 =>
          some (r3.1, r3.2)
        let k40 := fun (s40_0 : Int32) (s40_1 : Int32) (s40_2 : Int32) =>
          (zf_X10_within h s40_2 s40_1 s40_0).bind fun r6 =>
          if r6 = 0 then
            k46 ()
          else
          (zf_gr h q 10 7).bind fun v8 =>
          v8.bind fun a10 =>
          (zf_ai h a10 0 x1).bind fun v11 =>
          (zf_gr h q 10 7).bind fun v12 =>
          v12.bind fun a14 =>
          (zf_si h a14 0 x1 x2).bind fun h15 =>
          if x1 = 0 then
            (zf_X10_rule_L74 q v11 2000 h15 0).bind fun w21 =>
            some (w21, v11)
          else
          some (h15, v11)
        if x1 = 0 then
          k40 9 s19_0 s19_1
        else
        if x1 = 1 then
          k40 99 s19_0 s19_1
        else
        k40 20 s19_0 s19_1
        ) = some res → zc_W g h H locs → lv_has ls 5 [(0, va_rf ((some q))), (1, .int (x1)), (2, .int (x2))] → W p l e zr_X10_rule s m [va_rf ((some q)), .int (x1), .int (x2)].toArray below meth c H locs (0 + 0) (0 + 0) (zc_Q g below zr_X10_rule (some (.int (res.2))) res.1 [va_rf ((some q)), .int (x1), .int (x2)] s) (F0 m 19 ls [.int (s19_0), .int (s19_1)]) := by
      intro s19_0 s19_1 H locs ls hf hw hl
      refine lv_iload_n hx hb zd_X10_rule_19 rfl (lv_at hl 1 rfl) ?_
      have k40h : ∀ (s40_0 : Int32) (s40_1 : Int32) (s40_2 : Int32) (H : Heap) (locs : List Loc) (ls : Array Slot), (
          let k46 := fun (_ : Unit) =>
            (zf_X10_no h q (-6)).bind fun r3 =>
            some (r3.1, r3.2)
          (zf_X10_within h s40_2 s40_1 s40_0).bind fun r6 =>
          if r6 = 0 then
            k46 ()
          else
          (zf_gr h q 10 7).bind fun v8 =>
          v8.bind fun a10 =>
          (zf_ai h a10 0 x1).bind fun v11 =>
          (zf_gr h q 10 7).bind fun v12 =>
          v12.bind fun a14 =>
          (zf_si h a14 0 x1 x2).bind fun h15 =>
          if x1 = 0 then
            (zf_X10_rule_L74 q v11 2000 h15 0).bind fun w21 =>
            some (w21, v11)
          else
          some (h15, v11)
          ) = some res → zc_W g h H locs → lv_has ls 5 [(0, va_rf ((some q))), (1, .int (x1)), (2, .int (x2))] → W p l e zr_X10_rule s m [va_rf ((some q)), .int (x1), .int (x2)].toArray below meth c H locs (0 + 0) (0 + 0) (zc_Q g below zr_X10_rule (some (.int (res.2))) res.1 [va_rf ((some q)), .int (x1), .int (x2)] s) (F0 m 40 ls [.int (s40_0), .int (s40_1), .int (s40_2)]) := by
        intro s40_0 s40_1 s40_2 H locs ls hf hw hl
        replace hf := zo_b hf; obtain ⟨r6, er6, hf⟩ := hf
        refine zw_callS (n := 3) (As := [.int (s40_2), .int (s40_1), .int (s40_0)]) (rest := []) S hK hw (zt_X10_within l g h s40_2 s40_1 s40_0 _ er6) zm_1216 zm_1217 zq_X10_within zm_79 (by decide +kernel) ⟨Nat.le_of_ble_eq_true rfl, Nat.le_of_ble_eq_true rfl⟩ rfl hl.1 rfl (by simp [zv_cat, zv_ci, zv_cj]) zd_X10_rule_40 ⟨(Nat.le_refl 0), (Nat.le_refl 0)⟩ (fun H locs hw => ?_)
        replace hw : zc_W g h H locs := hw
        refine lv_if_ne (tgt := 53) hx hb zd_X10_rule_43 (by decide) (fun c7 => ?_) (fun c7 => ?_)
        · replace hf := zo_f c7 hf
          refine zl_aload_n hx hb zd_X10_rule_53 rfl (lv_at hl 0 rfl) ?_
          replace hf := zo_b hf; obtain ⟨v8, ev8, hf⟩ := hf
          obtain ⟨u9, u9e, u9v⟩ := zo_b ev8
          obtain rfl := zv_r_e u9v
          refine zw_get S hK hw zk_10 (k := 7) (by decide) rfl zm_1095 (Or.inl rfl) u9e zd_X10_rule_54 ?_
          refine lv_iload_n hx hb zd_X10_rule_57 rfl (lv_at hl 1 rfl) ?_
          replace hf := zo_b hf; obtain ⟨a10, na10, hf⟩ := hf
          refine W.eq (g2 := F0 m 58 ls [.int (x1), va_rf ((some a10))]) (by rw [na10] <;> rfl) ?_
          replace hf := zo_b hf; obtain ⟨v11, ev11, hf⟩ := hf
          refine zw_iald S hK hw ev11 zd_X10_rule_58 ?_
          refine lv_istore_n (i := 3) (lv' := [(3, .int (v11)), (0, va_rf ((some q))), (1, .int (x1)), (2, .int (x2))]) hx hb zd_X10_rule_59 rfl hl (by decide) rfl (fun ls hl => ?_)
          refine zl_aload_n hx hb zd_X10_rule_60 rfl (lv_at hl 1 rfl) ?_
          replace hf := zo_b hf; obtain ⟨v12, ev12, hf⟩ := hf
          obtain ⟨u13, u13e, u13v⟩ := zo_b ev12
          obtain rfl := zv_r_e u13v
          refine zw_get S hK hw zk_10 (k := 7) (by decide) rfl zm_1095 (Or.inl rfl) u13e zd_X10_rule_61 ?_
          refine lv_iload_n hx hb zd_X10_rule_64 rfl (lv_at hl 2 rfl) ?_
          refine lv_iload_n hx hb zd_X10_rule_65 rfl (lv_at hl 3 rfl) ?_
          replace hf := zo_b hf; obtain ⟨a14, na14, hf⟩ := hf
          refine W.eq (g2 := F0 m 66 ls [.int (x2), .int (x1), va_rf ((some a14))]) (by rw [na14] <;> rfl) ?_
          replace hf := zo_b hf; obtain ⟨h15, eh15, hf⟩ := hf
          refine zw_iast S hK hw eh15 zd_X10_rule_66 (fun H locs hw => ?_)
          refine lv_iload_n hx hb zd_X10_rule_67 rfl (lv_at hl 2 rfl) ?_
          refine lv_if_ne (tgt := 95) hx hb zd_X10_rule_68 (by decide) (fun c16 => ?_) (fun c16 => ?_)
          · replace hf := zo_f c16 hf
            refine lv_iload_n hx hb zd_X10_rule_95 rfl (lv_at hl 0 rfl) ?_
            have hres := Option.some.inj hf; subst hres
            exact zw_iret (v := v11) (ty := .int) hx hb hr hlk rfl hw zd_X10_rule_96 (Nat.le_refl 0) (Nat.le_refl 0)
          · replace hf := zo_t c16 hf
            refine lv_iconst (v := 0) hx hb zd_X10_rule_71 (by decide) ?_
            refine lv_istore (i := 4) (lv' := [(4, .int (0)), (3, .int (v11)), (0, va_rf ((some q))), (1, .int (x1)), (2, .int (x2))]) hx hb zd_X10_rule_72 hl (by decide) rfl (fun ls hl => ?_)
            replace hf := zo_b hf; obtain ⟨w21, w21e, hf⟩ := hf
            refine L74 v11 2000 h15 0 _ _ _ _ w21e hw (lv_sub hl [2, 1, 0] rfl) (fun H locs ls hw hl => ?_)
            refine lv_iload_n hx hb zd_X10_rule_95 rfl (lv_at hl 0 rfl) ?_
            have hres := Option.some.inj hf; subst hres
            exact zw_iret (v := v11) (ty := .int) hx hb hr hlk rfl hw zd_X10_rule_96 (Nat.le_refl 0) (Nat.le_refl 0)
        · replace hf := zo_t c7 hf
          exact k46h () _ _ _ hf hw (lv_sub hl [0] rfl)
      refine lv_if_ne (tgt := 28) hx hb zd_X10_rule_20 (by decide) (fun c5 => ?_) (fun c5 => ?_)
      · replace hf := zo_f c5 hf
        refine lv_iload_n hx hb zd_X10_rule_28 rfl (lv_at hl 1 rfl) ?_
        refine lv_iconst (v := 1) hx hb zd_X10_rule_29 (by decide) ?_
        refine lv_icmp_ne (tgt := 38) hx hb zd_X10_rule_30 (by decide) (fun c22 => ?_) (fun c22 => ?_)
        · replace hf := zo_f c22 hf
          refine lv_bipush (v := 20) hx hb zd_X10_rule_38 (by decide) ?_
          exact k40h 20 s19_0 s19_1 _ _ _ hf hw (lv_sub hl [0, 1, 2] rfl)
        · replace hf := zo_t c22 hf
          refine lv_bipush (v := 99) hx hb zd_X10_rule_33 (by decide) ?_
          refine lv_goto (tgt := 40) hx hb zd_X10_rule_35 (by decide) ?_
          exact k40h 99 s19_0 s19_1 _ _ _ hf hw (lv_sub hl [0, 1, 2] rfl)
      · replace hf := zo_t c5 hf
        refine lv_bipush (v := 9) hx hb zd_X10_rule_23 (by decide) ?_
        refine lv_goto (tgt := 40) hx hb zd_X10_rule_25 (by decide) ?_
        exact k40h 9 s19_0 s19_1 _ _ _ hf hw (lv_sub hl [0, 1, 2] rfl)
    refine lv_if_ne (tgt := 18) hx hb zd_X10_rule_11 (by decide) (fun c4 => ?_) (fun c4 => ?_)
    · replace hf := zo_f c4 hf
      refine lv_iconst (v := 0) hx hb zd_X10_rule_18 (by decide) ?_
      exact k19h 0 x2 _ _ _ hf hw (lv_sub hl [0, 1, 2] rfl)
    · replace hf := zo_t c4 hf
      refine lv_iconst (v := 1) hx hb zd_X10_rule_14 (by decide) ?_
      refine lv_goto (tgt := 19) hx hb zd_X10_rule_15 (by decide) ?_
      exact k19h 1 x2 _ _ _ hf hw (lv_sub hl [0, 1, 2] rfl)
def zf_X10_place (h : zc_H) (q : Nat) (x1 : Int32) (x2 : Int32) (x3 : Int32) : Option (zc_H × Int32) :=
  if ¬ zf_is h q 10 = true then none else
  (zf_X10_isRevision h q x1).bind fun r1 =>
  let k16 := fun (_ : Unit) =>
    (zf_X10_no10 h q (-1)).bind fun r3 =>
    some (r3.1, r3.2)
  if r1 = 0 then
    k16 ()
  else
  (zf_X10_isRevision h q x2).bind fun r4 =>
  if r4 = 0 then
    k16 ()
  else
  (zf_X10_isLine h q x1 x3).bind fun r6 =>
  if r6 = 0 then
    (zf_X10_no10 h q (-5)).bind fun r13 =>
    some (r13.1, r13.2)
  else
  (zf_X10_places h q x1 x2).bind fun r8 =>
  (zf_gr r8 q 10 26).bind fun v9 =>
  v9.bind fun a11 =>
  (zf_ai r8 a11 0 x3).bind fun v12 =>
  some (r8, v12)
abbrev zr_X10_place : Room := { frames := 4, cells := 0, slots := 0, locals := 100 }
theorem zi_X10_place {h : zc_H} {q : Nat} {x1 : Int32} {x2 : Int32} {x3 : Int32} {res : zc_H × Int32} (hf : zf_X10_place h q x1 x2 x3 = some res) : zf_is h q 10 = true := Decidable.not_not.mp (zo_n hf).1
set_option maxHeartbeats 4000000 in
set_option maxRecDepth 20000 in
theorem zt_X10_place (l : Launch) (g : zc_G) (h : zc_H) (q : Nat) (x1 : Int32) (x2 : Int32) (x3 : Int32) (res : zc_H × Int32) (hf : zf_X10_place h q x1 x2 x3 = some res) : zc_M l g yX10_place cX10_place 4 (some .int) zr_X10_place h [va_rf ((some q)), .int (x1), .int (x2), .int (x3)] res.1 (some (.int (res.2))) := by
  refine zc_M.of (by decide) (by simp [lg_sl, zv_cat, zv_ci, zv_cj]) ?_
  intro p e s m below meth c ls S hK hw hr hlk hnm hl
  replace S : CallFix p m c cX10_place 4 s [va_rf ((some q)), .int (x1), .int (x2), .int (x3)].toArray (zc_ws yX10_place cX10_place 4 (some .int)) RX10 := S
  have hx := S.1
  have hb := S.2.1
  replace hl : lv_has ls 4 [(0, va_rf ((some q))), (1, .int (x1)), (2, .int (x2)), (3, .int (x3))] := by simpa [lv_args, zv_cat, zv_ci, zv_cj] using hl
  generalize s.heap = H at hw ⊢
  obtain ⟨locs, hlocs⟩ : ∃ L : List Loc, L = [] := ⟨_, rfl⟩
  rw [← hlocs] at hw ⊢
  unfold zf_X10_place at hf
  obtain ⟨-, hf⟩ := zo_n hf
  refine zl_aload_n hx hb zd_X10_place_0 rfl (lv_at hl 0 rfl) ?_
  refine lv_iload_n hx hb zd_X10_place_1 rfl (lv_at hl 1 rfl) ?_
  replace hf := zo_b hf; obtain ⟨r1, er1, hf⟩ := hf
  refine zw_callV (n := 1) (ci := 10) (q := zc_cl[10]) (As := [.int (x1)]) (rest := []) S hK hw (zt_X10_isRevision l g h q x1 _ er1) zm_1273 zm_1275 zm_29 zq_X10_isRevision zm_79 (by decide +kernel) ⟨Nat.le_of_ble_eq_true rfl, Nat.le_of_ble_eq_true rfl⟩ rfl rfl rfl (zi_X10_isRevision er1) hl.1 rfl (by simp [zv_cat, zv_ci, zv_cj]) zd_X10_place_2 ⟨(Nat.le_refl 0), (Nat.le_refl 0)⟩ (fun H locs hw => ?_)
  replace hw : zc_W g h H locs := hw
  have k16h : ∀ (_ : Unit) (H : Heap) (locs : List Loc) (ls : Array Slot), (
      (zf_X10_no10 h q (-1)).bind fun r3 =>
      some (r3.1, r3.2)
      ) = some res → zc_W g h H locs → lv_has ls 4 [(0, va_rf ((some q)))] → W p l e zr_X10_place s m [va_rf ((some q)), .int (x1), .int (x2), .int (x3)].toArray below meth c H locs (0 + 0) (0 + 0) (zc_Q g below zr_X10_place (some (.int (res.2))) res.1 [va_rf ((some q)), .int (x1), .int (x2), .int (x3)] s) (F0 m 16 ls []) := by
    intro _ H locs ls hf hw hl
    refine zl_aload_n hx hb zd_X10_place_16 rfl (lv_at hl 0 rfl) ?_
    refine lv_iconst (v := (-1)) hx hb zd_X10_place_17 (by decide) ?_
    replace hf := zo_b hf; obtain ⟨r3, er3, hf⟩ := hf
    refine zw_callV (n := 1) (ci := 10) (q := zc_cl[10]) (As := [.int ((-1))]) (rest := []) S hK hw (zt_X10_no10 l g h q (-1) _ er3) zm_1335 zm_1337 zm_40 zq_X10_no10 zm_79 (by decide +kernel) ⟨Nat.le_of_ble_eq_true rfl, Nat.le_of_ble_eq_true rfl⟩ rfl rfl rfl (zi_X10_no10 er3) hl.1 rfl (by simp [zv_cat, zv_ci, zv_cj]) zd_X10_place_18 ⟨(Nat.le_refl 0), (Nat.le_refl 0)⟩ (fun H locs hw => ?_)
    replace hw : zc_W g r3.1 H locs := hw
    have hres := Option.some.inj hf; subst hres
    exact zw_iret (v := r3.2) (ty := .int) hx hb hr hlk rfl hw zd_X10_place_21 (Nat.le_refl 0) (Nat.le_refl 0)
  refine lv_if_eq (tgt := 16) hx hb zd_X10_place_5 (by decide) (fun c2 => ?_) (fun c2 => ?_)
  · replace hf := zo_t c2 hf
    exact k16h () _ _ _ hf hw (lv_sub hl [0] rfl)
  · replace hf := zo_f c2 hf
    refine zl_aload_n hx hb zd_X10_place_8 rfl (lv_at hl 0 rfl) ?_
    refine lv_iload_n hx hb zd_X10_place_9 rfl (lv_at hl 2 rfl) ?_
    replace hf := zo_b hf; obtain ⟨r4, er4, hf⟩ := hf
    refine zw_callV (n := 1) (ci := 10) (q := zc_cl[10]) (As := [.int (x2)]) (rest := []) S hK hw (zt_X10_isRevision l g h q x2 _ er4) zm_1273 zm_1275 zm_29 zq_X10_isRevision zm_79 (by decide +kernel) ⟨Nat.le_of_ble_eq_true rfl, Nat.le_of_ble_eq_true rfl⟩ rfl rfl rfl (zi_X10_isRevision er4) hl.1 rfl (by simp [zv_cat, zv_ci, zv_cj]) zd_X10_place_10 ⟨(Nat.le_refl 0), (Nat.le_refl 0)⟩ (fun H locs hw => ?_)
    replace hw : zc_W g h H locs := hw
    refine lv_if_ne (tgt := 22) hx hb zd_X10_place_13 (by decide) (fun c5 => ?_) (fun c5 => ?_)
    · replace hf := zo_f c5 hf
      refine zl_aload_n hx hb zd_X10_place_22 rfl (lv_at hl 0 rfl) ?_
      refine lv_iload_n hx hb zd_X10_place_23 rfl (lv_at hl 1 rfl) ?_
      refine lv_iload_n hx hb zd_X10_place_24 rfl (lv_at hl 3 rfl) ?_
      replace hf := zo_b hf; obtain ⟨r6, er6, hf⟩ := hf
      refine zw_callV (n := 2) (ci := 10) (q := zc_cl[10]) (As := [.int (x1), .int (x3)]) (rest := []) S hK hw (zt_X10_isLine l g h q x1 x3 _ er6) zm_1326 zm_1328 zm_39 zq_X10_isLine zm_79 (by decide +kernel) ⟨Nat.le_of_ble_eq_true rfl, Nat.le_of_ble_eq_true rfl⟩ rfl rfl rfl (zi_X10_isLine er6) hl.1 rfl (by simp [zv_cat, zv_ci, zv_cj]) zd_X10_place_25 ⟨(Nat.le_refl 0), (Nat.le_refl 0)⟩ (fun H locs hw => ?_)
      replace hw : zc_W g h H locs := hw
      refine lv_if_ne (tgt := 38) hx hb zd_X10_place_28 (by decide) (fun c7 => ?_) (fun c7 => ?_)
      · replace hf := zo_f c7 hf
        refine zl_aload_n hx hb zd_X10_place_38 rfl (lv_at hl 0 rfl) ?_
        refine lv_iload_n hx hb zd_X10_place_39 rfl (lv_at hl 1 rfl) ?_
        refine lv_iload_n hx hb zd_X10_place_40 rfl (lv_at hl 2 rfl) ?_
        replace hf := zo_b hf; obtain ⟨r8, er8, hf⟩ := hf
        refine zw_callV (n := 2) (ci := 10) (q := zc_cl[10]) (As := [.int (x1), .int (x2)]) (rest := []) S hK hw (zt_X10_places l g h q x1 x2 _ er8) zm_1293 zm_1295 zm_34 zq_X10_places zm_79 (by decide +kernel) ⟨Nat.le_of_ble_eq_true rfl, Nat.le_of_ble_eq_true rfl⟩ rfl rfl rfl (zi_X10_places er8) hl.1 rfl (by simp [zv_cat, zv_ci, zv_cj]) zd_X10_place_41 ⟨(Nat.le_refl 0), (Nat.le_refl 0)⟩ (fun H locs hw => ?_)
        replace hw : zc_W g r8 H locs := hw
        refine zl_aload_n hx hb zd_X10_place_44 rfl (lv_at hl 0 rfl) ?_
        replace hf := zo_b hf; obtain ⟨v9, ev9, hf⟩ := hf
        obtain ⟨u10, u10e, u10v⟩ := zo_b ev9
        obtain rfl := zv_r_e u10v
        refine zw_get S hK hw zk_10 (k := 26) (by decide) rfl zm_1114 (Or.inl rfl) u10e zd_X10_place_45 ?_
        refine lv_iload_n hx hb zd_X10_place_48 rfl (lv_at hl 3 rfl) ?_
        replace hf := zo_b hf; obtain ⟨a11, na11, hf⟩ := hf
        refine W.eq (g2 := F0 m 49 ls [.int (x3), va_rf ((some a11))]) (by rw [na11] <;> rfl) ?_
        replace hf := zo_b hf; obtain ⟨v12, ev12, hf⟩ := hf
        refine zw_iald S hK hw ev12 zd_X10_place_49 ?_
        have hres := Option.some.inj hf; subst hres
        exact zw_iret (v := v12) (ty := .int) hx hb hr hlk rfl hw zd_X10_place_50 (Nat.le_refl 0) (Nat.le_refl 0)
      · replace hf := zo_t c7 hf
        refine zl_aload_n hx hb zd_X10_place_31 rfl (lv_at hl 0 rfl) ?_
        refine lv_bipush (v := (-5)) hx hb zd_X10_place_32 (by decide) ?_
        replace hf := zo_b hf; obtain ⟨r13, er13, hf⟩ := hf
        refine zw_callV (n := 1) (ci := 10) (q := zc_cl[10]) (As := [.int ((-5))]) (rest := []) S hK hw (zt_X10_no10 l g h q (-5) _ er13) zm_1335 zm_1337 zm_40 zq_X10_no10 zm_79 (by decide +kernel) ⟨Nat.le_of_ble_eq_true rfl, Nat.le_of_ble_eq_true rfl⟩ rfl rfl rfl (zi_X10_no10 er13) hl.1 rfl (by simp [zv_cat, zv_ci, zv_cj]) zd_X10_place_34 ⟨(Nat.le_refl 0), (Nat.le_refl 0)⟩ (fun H locs hw => ?_)
        replace hw : zc_W g r13.1 H locs := hw
        have hres := Option.some.inj hf; subst hres
        exact zw_iret (v := r13.2) (ty := .int) hx hb hr hlk rfl hw zd_X10_place_37 (Nat.le_refl 0) (Nat.le_refl 0)
    · replace hf := zo_t c5 hf
      exact k16h () _ _ _ hf hw (lv_sub hl [0] rfl)
def zf_X10_matched (h : zc_H) (q : Nat) (x1 : Int32) (x2 : Int32) (x3 : Int32) : Option (zc_H × Int32) :=
  if ¬ zf_is h q 10 = true then none else
  (zf_X10_isRevision h q x1).bind fun r1 =>
  let k16 := fun (_ : Unit) =>
    (zf_X10_no h q (-1)).bind fun r3 =>
    some (r3.1, r3.2)
  if r1 = 0 then
    k16 ()
  else
  (zf_X10_isRevision h q x2).bind fun r4 =>
  if r4 = 0 then
    k16 ()
  else
  (zf_X10_within h x3 0 1).bind fun r6 =>
  if r6 = 0 then
    (zf_X10_no h q (-5)).bind fun r14 =>
    some (r14.1, r14.2)
  else
  (zf_X10_places h q x1 x2).bind fun r8 =>
  if x3 = 0 then
    (zf_gi r8 q 10 28).bind fun v12 =>
    some (r8, v12)
  else
  (zf_gi r8 q 10 29).bind fun v10 =>
  some (r8, v10)
abbrev zr_X10_matched : Room := { frames := 4, cells := 0, slots := 0, locals := 100 }
theorem zi_X10_matched {h : zc_H} {q : Nat} {x1 : Int32} {x2 : Int32} {x3 : Int32} {res : zc_H × Int32} (hf : zf_X10_matched h q x1 x2 x3 = some res) : zf_is h q 10 = true := Decidable.not_not.mp (zo_n hf).1
set_option maxHeartbeats 4000000 in
set_option maxRecDepth 20000 in
theorem zt_X10_matched (l : Launch) (g : zc_G) (h : zc_H) (q : Nat) (x1 : Int32) (x2 : Int32) (x3 : Int32) (res : zc_H × Int32) (hf : zf_X10_matched h q x1 x2 x3 = some res) : zc_M l g yX10_matched cX10_matched 4 (some .int) zr_X10_matched h [va_rf ((some q)), .int (x1), .int (x2), .int (x3)] res.1 (some (.int (res.2))) := by
  refine zc_M.of (by decide) (by simp [lg_sl, zv_cat, zv_ci, zv_cj]) ?_
  intro p e s m below meth c ls S hK hw hr hlk hnm hl
  replace S : CallFix p m c cX10_matched 4 s [va_rf ((some q)), .int (x1), .int (x2), .int (x3)].toArray (zc_ws yX10_matched cX10_matched 4 (some .int)) RX10 := S
  have hx := S.1
  have hb := S.2.1
  replace hl : lv_has ls 4 [(0, va_rf ((some q))), (1, .int (x1)), (2, .int (x2)), (3, .int (x3))] := by simpa [lv_args, zv_cat, zv_ci, zv_cj] using hl
  generalize s.heap = H at hw ⊢
  obtain ⟨locs, hlocs⟩ : ∃ L : List Loc, L = [] := ⟨_, rfl⟩
  rw [← hlocs] at hw ⊢
  unfold zf_X10_matched at hf
  obtain ⟨-, hf⟩ := zo_n hf
  refine zl_aload_n hx hb zd_X10_matched_0 rfl (lv_at hl 0 rfl) ?_
  refine lv_iload_n hx hb zd_X10_matched_1 rfl (lv_at hl 1 rfl) ?_
  replace hf := zo_b hf; obtain ⟨r1, er1, hf⟩ := hf
  refine zw_callV (n := 1) (ci := 10) (q := zc_cl[10]) (As := [.int (x1)]) (rest := []) S hK hw (zt_X10_isRevision l g h q x1 _ er1) zm_1273 zm_1275 zm_29 zq_X10_isRevision zm_79 (by decide +kernel) ⟨Nat.le_of_ble_eq_true rfl, Nat.le_of_ble_eq_true rfl⟩ rfl rfl rfl (zi_X10_isRevision er1) hl.1 rfl (by simp [zv_cat, zv_ci, zv_cj]) zd_X10_matched_2 ⟨(Nat.le_refl 0), (Nat.le_refl 0)⟩ (fun H locs hw => ?_)
  replace hw : zc_W g h H locs := hw
  have k16h : ∀ (_ : Unit) (H : Heap) (locs : List Loc) (ls : Array Slot), (
      (zf_X10_no h q (-1)).bind fun r3 =>
      some (r3.1, r3.2)
      ) = some res → zc_W g h H locs → lv_has ls 4 [(0, va_rf ((some q)))] → W p l e zr_X10_matched s m [va_rf ((some q)), .int (x1), .int (x2), .int (x3)].toArray below meth c H locs (0 + 0) (0 + 0) (zc_Q g below zr_X10_matched (some (.int (res.2))) res.1 [va_rf ((some q)), .int (x1), .int (x2), .int (x3)] s) (F0 m 16 ls []) := by
    intro _ H locs ls hf hw hl
    refine zl_aload_n hx hb zd_X10_matched_16 rfl (lv_at hl 0 rfl) ?_
    refine lv_iconst (v := (-1)) hx hb zd_X10_matched_17 (by decide) ?_
    replace hf := zo_b hf; obtain ⟨r3, er3, hf⟩ := hf
    refine zw_callV (n := 1) (ci := 10) (q := zc_cl[10]) (As := [.int ((-1))]) (rest := []) S hK hw (zt_X10_no l g h q (-1) _ er3) zm_1219 zm_1221 zm_24 zq_X10_no zm_79 (by decide +kernel) ⟨Nat.le_of_ble_eq_true rfl, Nat.le_of_ble_eq_true rfl⟩ rfl rfl rfl (zi_X10_no er3) hl.1 rfl (by simp [zv_cat, zv_ci, zv_cj]) zd_X10_matched_18 ⟨(Nat.le_refl 0), (Nat.le_refl 0)⟩ (fun H locs hw => ?_)
    replace hw : zc_W g r3.1 H locs := hw
    have hres := Option.some.inj hf; subst hres
    exact zw_iret (v := r3.2) (ty := .int) hx hb hr hlk rfl hw zd_X10_matched_21 (Nat.le_refl 0) (Nat.le_refl 0)
  refine lv_if_eq (tgt := 16) hx hb zd_X10_matched_5 (by decide) (fun c2 => ?_) (fun c2 => ?_)
  · replace hf := zo_t c2 hf
    exact k16h () _ _ _ hf hw (lv_sub hl [0] rfl)
  · replace hf := zo_f c2 hf
    refine zl_aload_n hx hb zd_X10_matched_8 rfl (lv_at hl 0 rfl) ?_
    refine lv_iload_n hx hb zd_X10_matched_9 rfl (lv_at hl 2 rfl) ?_
    replace hf := zo_b hf; obtain ⟨r4, er4, hf⟩ := hf
    refine zw_callV (n := 1) (ci := 10) (q := zc_cl[10]) (As := [.int (x2)]) (rest := []) S hK hw (zt_X10_isRevision l g h q x2 _ er4) zm_1273 zm_1275 zm_29 zq_X10_isRevision zm_79 (by decide +kernel) ⟨Nat.le_of_ble_eq_true rfl, Nat.le_of_ble_eq_true rfl⟩ rfl rfl rfl (zi_X10_isRevision er4) hl.1 rfl (by simp [zv_cat, zv_ci, zv_cj]) zd_X10_matched_10 ⟨(Nat.le_refl 0), (Nat.le_refl 0)⟩ (fun H locs hw => ?_)
    replace hw : zc_W g h H locs := hw
    refine lv_if_ne (tgt := 22) hx hb zd_X10_matched_13 (by decide) (fun c5 => ?_) (fun c5 => ?_)
    · replace hf := zo_f c5 hf
      refine lv_iload_n hx hb zd_X10_matched_22 rfl (lv_at hl 3 rfl) ?_
      refine lv_iconst (v := 0) hx hb zd_X10_matched_23 (by decide) ?_
      refine lv_iconst (v := 1) hx hb zd_X10_matched_24 (by decide) ?_
      replace hf := zo_b hf; obtain ⟨r6, er6, hf⟩ := hf
      refine zw_callS (n := 3) (As := [.int (x3), .int (0), .int (1)]) (rest := []) S hK hw (zt_X10_within l g h x3 0 1 _ er6) zm_1216 zm_1217 zq_X10_within zm_79 (by decide +kernel) ⟨Nat.le_of_ble_eq_true rfl, Nat.le_of_ble_eq_true rfl⟩ rfl hl.1 rfl (by simp [zv_cat, zv_ci, zv_cj]) zd_X10_matched_25 ⟨(Nat.le_refl 0), (Nat.le_refl 0)⟩ (fun H locs hw => ?_)
      replace hw : zc_W g h H locs := hw
      refine lv_if_ne (tgt := 38) hx hb zd_X10_matched_28 (by decide) (fun c7 => ?_) (fun c7 => ?_)
      · replace hf := zo_f c7 hf
        refine zl_aload_n hx hb zd_X10_matched_38 rfl (lv_at hl 0 rfl) ?_
        refine lv_iload_n hx hb zd_X10_matched_39 rfl (lv_at hl 1 rfl) ?_
        refine lv_iload_n hx hb zd_X10_matched_40 rfl (lv_at hl 2 rfl) ?_
        replace hf := zo_b hf; obtain ⟨r8, er8, hf⟩ := hf
        refine zw_callV (n := 2) (ci := 10) (q := zc_cl[10]) (As := [.int (x1), .int (x2)]) (rest := []) S hK hw (zt_X10_places l g h q x1 x2 _ er8) zm_1293 zm_1295 zm_34 zq_X10_places zm_79 (by decide +kernel) ⟨Nat.le_of_ble_eq_true rfl, Nat.le_of_ble_eq_true rfl⟩ rfl rfl rfl (zi_X10_places er8) hl.1 rfl (by simp [zv_cat, zv_ci, zv_cj]) zd_X10_matched_41 ⟨(Nat.le_refl 0), (Nat.le_refl 0)⟩ (fun H locs hw => ?_)
        replace hw : zc_W g r8 H locs := hw
        refine lv_iload_n hx hb zd_X10_matched_44 rfl (lv_at hl 3 rfl) ?_
        refine lv_if_ne (tgt := 55) hx hb zd_X10_matched_45 (by decide) (fun c9 => ?_) (fun c9 => ?_)
        · replace hf := zo_f c9 hf
          refine zl_aload_n hx hb zd_X10_matched_55 rfl (lv_at hl 0 rfl) ?_
          replace hf := zo_b hf; obtain ⟨v10, ev10, hf⟩ := hf
          obtain ⟨u11, u11e, u11v⟩ := zo_b ev10
          obtain rfl := zv_i_e u11v
          refine zw_get S hK hw zk_10 (k := 29) (by decide) rfl zm_1117 (Or.inl rfl) u11e zd_X10_matched_56 ?_
          have hres := Option.some.inj hf; subst hres
          exact zw_iret (v := v10) (ty := .int) hx hb hr hlk rfl hw zd_X10_matched_59 (Nat.le_refl 0) (Nat.le_refl 0)
        · replace hf := zo_t c9 hf
          refine zl_aload_n hx hb zd_X10_matched_48 rfl (lv_at hl 0 rfl) ?_
          replace hf := zo_b hf; obtain ⟨v12, ev12, hf⟩ := hf
          obtain ⟨u13, u13e, u13v⟩ := zo_b ev12
          obtain rfl := zv_i_e u13v
          refine zw_get S hK hw zk_10 (k := 28) (by decide) rfl zm_1116 (Or.inl rfl) u13e zd_X10_matched_49 ?_
          refine lv_goto (tgt := 59) hx hb zd_X10_matched_52 (by decide) ?_
          have hres := Option.some.inj hf; subst hres
          exact zw_iret (v := v12) (ty := .int) hx hb hr hlk rfl hw zd_X10_matched_59 (Nat.le_refl 0) (Nat.le_refl 0)
      · replace hf := zo_t c7 hf
        refine zl_aload_n hx hb zd_X10_matched_31 rfl (lv_at hl 0 rfl) ?_
        refine lv_bipush (v := (-5)) hx hb zd_X10_matched_32 (by decide) ?_
        replace hf := zo_b hf; obtain ⟨r14, er14, hf⟩ := hf
        refine zw_callV (n := 1) (ci := 10) (q := zc_cl[10]) (As := [.int ((-5))]) (rest := []) S hK hw (zt_X10_no l g h q (-5) _ er14) zm_1219 zm_1221 zm_24 zq_X10_no zm_79 (by decide +kernel) ⟨Nat.le_of_ble_eq_true rfl, Nat.le_of_ble_eq_true rfl⟩ rfl rfl rfl (zi_X10_no er14) hl.1 rfl (by simp [zv_cat, zv_ci, zv_cj]) zd_X10_matched_34 ⟨(Nat.le_refl 0), (Nat.le_refl 0)⟩ (fun H locs hw => ?_)
        replace hw : zc_W g r14.1 H locs := hw
        have hres := Option.some.inj hf; subst hres
        exact zw_iret (v := r14.2) (ty := .int) hx hb hr hlk rfl hw zd_X10_matched_37 (Nat.le_refl 0) (Nat.le_refl 0)
    · replace hf := zo_t c5 hf
      exact k16h () _ _ _ hf hw (lv_sub hl [0] rfl)
