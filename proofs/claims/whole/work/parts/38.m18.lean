def zf_X9_again_L123 (q : Nat) (y3 : Option Nat) (y5 : Int32) (y6 : Int32) (y7 : Option Nat) : Nat → zc_H → Int32 → Option (zc_H)
  | 0, _, _ => none
  | n + 1, h, y8 =>
    if y5 ≤ y8 then
      some h
    else
    (zf_gr h q 9 1).bind fun v42 =>
    v42.bind fun a44 =>
    (zf_gr h a44 6 1).bind fun v45 =>
    v45.bind fun a47 =>
    (zf_Jx4a65c_get_915e3 h a47 y8).bind fun r48 =>
    if ¬ zf_cc h r48 3 = true then none else
    r48.bind fun a50 =>
    (zf_gr h a50 3 3).bind fun v51 =>
    if v51 = y3 then
      (zf_gr h q 9 1).bind fun v54 =>
      v54.bind fun a56 =>
      (zf_X6_isSettled h a56 y8).bind fun r57 =>
      if r57 = 0 then
        (zf_gr h q 9 1).bind fun v59 =>
        v59.bind fun a61 =>
        (zf_gr h a61 6 1).bind fun v62 =>
        (zf_gr h q 9 1).bind fun v64 =>
        v64.bind fun a66 =>
        (zf_gr h a66 6 1).bind fun v67 =>
        v67.bind fun a69 =>
        (zf_Jx4a65c_size_8abf5 h a69).bind fun r70 =>
        (zf_X3_madeOn h a50 y7 r70).bind fun r71 =>
        v62.bind fun a72 =>
        (zf_Jx4a65c_add_9ea2d r71.1 a72 r71.2).bind fun r73 =>
        zf_X9_again_L123 q y3 y5 y6 y7 n r73.1 (y8 + 1)
      else
      zf_X9_again_L123 q y3 y5 y6 y7 n h (y8 + 1)
    else
    zf_X9_again_L123 q y3 y5 y6 y7 n h (y8 + 1)
def zf_X9_again (h : zc_H) (q : Nat) (x1 : Int32) (x2 : Int32) : Option (zc_H × Int32) :=
  if ¬ zf_is h q 9 = true then none else
  (zf_gr h q 9 1).bind fun v1 =>
  v1.bind fun a3 =>
  (zf_X6_revisionAt h a3 x1).bind fun r4 =>
  (zf_gr h q 9 1).bind fun v5 =>
  v5.bind fun a7 =>
  (zf_X6_revisionAt h a7 x2).bind fun r8 =>
  let k28 := fun (_ : Unit) =>
    (zf_X9_refuse h q (-1)).bind fun r10 =>
    some (r10.1, r10.2)
  if r4 = none then
    k28 ()
  else
  if r8 = none then
    k28 ()
  else
  r8.bind fun a12 =>
  (zf_X4_isBehind h a12 r4).bind fun r13 =>
  if r13 = 0 then
    (zf_gr h q 9 1).bind fun v15 =>
    v15.bind fun a17 =>
    (zf_gr h a17 6 1).bind fun v18 =>
    v18.bind fun a20 =>
    (zf_Jx4a65c_size_8abf5 h a20).bind fun r21 =>
    (zf_gr h q 9 1).bind fun v22 =>
    v22.bind fun a24 =>
    (zf_X6_unsettledOn h a24 r4).bind fun r25 =>
    (zf_gr h q 9 1).bind fun v26 =>
    v26.bind fun a28 =>
    (zf_gr h a28 6 0).bind fun v29 =>
    v29.bind fun a31 =>
    (zf_Jx4a65c_size_8abf5 h a31).bind fun r32 =>
    let k97 := fun (_ : Unit) =>
      (zf_X9_refuse h q (-7)).bind fun r34 =>
      some (r34.1, r34.2)
    if 16 ≤ r32 then
      k97 ()
    else
    if (r21 + r25) ≤ 16 then
      (zf_gr h q 9 6).bind fun v36 =>
      v36.bind fun a38 =>
      (zf_X0_startFrom h a38 r4).bind fun r39 =>
      (zf_X9_addRevision r39 q r8).bind fun r40 =>
      (zf_X9_again_L123 q r4 r21 r25 r40.2 17 r40.1 0).bind fun w74 =>
      some (w74, r25)
    else
    k97 ()
  else
  (zf_X9_refuse h q (-6)).bind fun r77 =>
  some (r77.1, r77.2)
abbrev zr_X9_again : Room := { frames := 9, cells := 38, slots := 907, locals := 250 }
theorem zi_X9_again {h : zc_H} {q : Nat} {x1 : Int32} {x2 : Int32} {res : zc_H × Int32} (hf : zf_X9_again h q x1 x2 = some res) : zf_is h q 9 = true := Decidable.not_not.mp (zo_n hf).1
set_option maxHeartbeats 4000000 in
set_option maxRecDepth 20000 in
theorem zt_X9_again (l : Launch) (g : zc_G) (h : zc_H) (q : Nat) (x1 : Int32) (x2 : Int32) (res : zc_H × Int32) (hf : zf_X9_again h q x1 x2 = some res) : zc_M l g yX9_again cX9_again 10 (some .int) zr_X9_again h [va_rf ((some q)), .int (x1), .int (x2)] res.1 (some (.int (res.2))) := by
  refine zc_M.of (by decide) (by simp [lg_sl, zv_cat, zv_ci, zv_cj]) ?_
  intro p e s m below meth c ls S hK hw hr hlk hnm hl
  replace S : CallFix p m c cX9_again 10 s [va_rf ((some q)), .int (x1), .int (x2)].toArray (zc_ws yX9_again cX9_again 10 (some .int)) RX9 := S
  have hx := S.1
  have hb := S.2.1
  replace hl : lv_has ls 10 [(0, va_rf ((some q))), (1, .int (x1)), (2, .int (x2))] := by simpa [lv_args, zv_cat, zv_ci, zv_cj] using hl
  generalize s.heap = H at hw ⊢
  obtain ⟨locs, hlocs⟩ : ∃ L : List Loc, L = [] := ⟨_, rfl⟩
  rw [← hlocs] at hw ⊢
  have L123 : ∀ (y3 : Option Nat) (y5 : Int32) (y6 : Int32) (y7 : Option Nat) (n : Nat) (h : zc_H) (y8 : Int32) (w : zc_H) (H : Heap) (locs : List Loc) (ls : Array Slot) (cl sl : Nat), cl + n * 2 ≤ 38 → sl + n * 46 ≤ 907 → zf_X9_again_L123 q y3 y5 y6 y7 n h y8 = some w → zc_W g h H locs → lv_has ls 10 [(0, va_rf ((some q))), (3, va_rf (y3)), (5, .int (y5)), (6, .int (y6)), (7, va_rf (y7)), (8, .int (y8))] → (∀ (H : Heap) (locs : List Loc) (ls : Array Slot) (cl1 sl1 : Nat), cl1 ≤ cl + n * 2 → sl1 ≤ sl + n * 46 → zc_W g w H locs → lv_has ls 10 [(6, .int (y6))] → W p l e zr_X9_again s m [va_rf ((some q)), .int (x1), .int (x2)].toArray below meth c H locs cl1 sl1 (zc_Q g below zr_X9_again (some (.int (res.2))) res.1 [va_rf ((some q)), .int (x1), .int (x2)] s) (F0 m 202 ls [])) → W p l e zr_X9_again s m [va_rf ((some q)), .int (x1), .int (x2)].toArray below meth c H locs cl sl (zc_Q g below zr_X9_again (some (.int (res.2))) res.1 [va_rf ((some q)), .int (x1), .int (x2)] s) (F0 m 123 ls []) := by
    intro y3 y5 y6 y7 n
    induction n with
    | zero =>
      intro h y8 w H locs ls cl sl hcl hsl hf
      cases hf
    | succ n ih =>
      intro h y8 w H locs ls cl sl hcl hsl hf hw hl  kk
      unfold zf_X9_again_L123 at hf
      refine lv_iload hx hb zd_X9_again_123 (lv_at hl 5 rfl) ?_
      refine lv_iload hx hb zd_X9_again_125 (lv_at hl 2 rfl) ?_
      refine lv_icmp_ge (tgt := 202) hx hb zd_X9_again_127 (by decide) (fun c41 => ?_) (fun c41 => ?_)
      · replace hf := zo_t c41 hf
        have hres := Option.some.inj hf; subst hres
        exact kk _ _ _ _ _ (by omega) (by omega) hw (lv_sub hl [3] rfl)
      · replace hf := zo_f c41 hf
        refine zl_aload_n hx hb zd_X9_again_130 rfl (lv_at hl 0 rfl) ?_
        replace hf := zo_b hf; obtain ⟨v42, ev42, hf⟩ := hf
        obtain ⟨u43, u43e, u43v⟩ := zo_b ev42
        obtain rfl := zv_r_e u43v
        refine zw_get S hK hw zk_9 (k := 1) (by decide) rfl zm_308 (Or.inl rfl) u43e zd_X9_again_131 ?_
        replace hf := zo_b hf; obtain ⟨a44, na44, hf⟩ := hf
        refine W.eq (g2 := F0 m 134 ls [va_rf ((some a44))]) (by rw [na44] <;> rfl) ?_
        replace hf := zo_b hf; obtain ⟨v45, ev45, hf⟩ := hf
        obtain ⟨u46, u46e, u46v⟩ := zo_b ev45
        obtain rfl := zv_r_e u46v
        refine zw_get S hK hw zk_6 (k := 1) (by decide) rfl zm_135 (Or.inl rfl) u46e zd_X9_again_134 ?_
        refine lv_iload hx hb zd_X9_again_137 (lv_at hl 5 rfl) ?_
        replace hf := zo_b hf; obtain ⟨a47, na47, hf⟩ := hf
        refine W.eq (g2 := F0 m 139 ls [.int (y8), va_rf ((some a47))]) (by rw [na47] <;> rfl) ?_
        replace hf := zo_b hf; obtain ⟨r48, er48, hf⟩ := hf
        refine zw_callV (n := 1) (ci := 11) (q := zc_cl[11]) (As := [.int (y8)]) (rest := []) S hK hw (zt_Jx4a65c_get_915e3 l g h a47 y8 _ er48) zm_699 zm_429 zm_430 zq_Jx4a65c_get_915e3 zm_72 (by decide +kernel) ⟨Nat.le_of_ble_eq_true rfl, Nat.le_of_ble_eq_true rfl⟩ rfl rfl rfl (zi_Jx4a65c_get_915e3 er48) hl.1 rfl (by simp [zv_cat, zv_ci, zv_cj]) zd_X9_again_139 ⟨(by show cl + (0 : Nat) ≤ (38 : Nat); omega), (by show sl + (0 : Nat) ≤ (907 : Nat); omega)⟩ (fun H locs hw => ?_)
        replace hw : zc_W g h H locs := hw
        refine W.widen (k := (cl + 0)) (n := (sl + 0)) (Nat.le_refl _) (Nat.le_refl _) ?_
        replace hf := zo_n hf; obtain ⟨z49, hf⟩ := hf
        refine zw_cast (q := zc_cl[3]) S hK hw zm_746 rfl rfl (Decidable.not_not.mp z49) zd_X9_again_142 ?_
        refine zl_astore (i := 9) (lv' := [(9, va_rf (r48)), (0, va_rf ((some q))), (3, va_rf (y3)), (5, .int (y5)), (6, .int (y6)), (7, va_rf (y7)), (8, .int (y8))]) hx hb zd_X9_again_145 hl (by decide) rfl (fun ls hl => ?_)
        refine zl_aload hx hb zd_X9_again_147 (lv_at hl 0 rfl) ?_
        replace hf := zo_b hf; obtain ⟨a50, na50, hf⟩ := hf
        refine W.eq (g2 := F0 m 149 ls [va_rf ((some a50))]) (by rw [na50] <;> rfl) ?_
        replace hf := zo_b hf; obtain ⟨v51, ev51, hf⟩ := hf
        obtain ⟨u52, u52e, u52v⟩ := zo_b ev51
        obtain rfl := zv_r_e u52v
        refine zw_get S hK hw zk_3 (k := 3) (by decide) rfl zm_768 (Or.inl rfl) u52e zd_X9_again_149 ?_
        refine zl_aload_n hx hb zd_X9_again_152 rfl (lv_at hl 2 rfl) ?_
        refine lv_acmp_ne (tgt := 196) hx hb zd_X9_again_153 (by decide) (fun c53 => ?_) (fun c53 => ?_)
        · replace hf := zo_f c53 hf
          refine lv_iinc (i := 8) (v := (y8 + 1)) (lv' := [(8, .int ((y8 + 1))), (9, va_rf (r48)), (0, va_rf ((some q))), (3, va_rf (y3)), (5, .int (y5)), (6, .int (y6)), (7, va_rf (y7))]) hx hb zd_X9_again_196 hl (k := 6) rfl (congrArg (_ + ·) (by decide)) (by decide) (by simp [List.filter, zv_cat, zv_ci, zv_cj]) (fun ls hl => ?_)
          refine lv_goto (tgt := 123) hx hb zd_X9_again_199 (by decide) ?_
          exact ih h (y8 + 1) _ _ _ _ _ _ (by omega) (by omega) hf hw (lv_sub hl [2, 3, 4, 5, 6, 0] rfl) (fun H locs ls cl1 sl1 h1 h2 => kk H locs ls cl1 sl1 (by omega) (by omega))
        · replace hf := zo_t c53 hf
          refine zl_aload_n hx hb zd_X9_again_156 rfl (lv_at hl 1 rfl) ?_
          replace hf := zo_b hf; obtain ⟨v54, ev54, hf⟩ := hf
          obtain ⟨u55, u55e, u55v⟩ := zo_b ev54
          obtain rfl := zv_r_e u55v
          refine zw_get S hK hw zk_9 (k := 1) (by decide) rfl zm_308 (Or.inl rfl) u55e zd_X9_again_157 ?_
          refine lv_iload hx hb zd_X9_again_160 (lv_at hl 6 rfl) ?_
          replace hf := zo_b hf; obtain ⟨a56, na56, hf⟩ := hf
          refine W.eq (g2 := F0 m 162 ls [.int (y8), va_rf ((some a56))]) (by rw [na56] <;> rfl) ?_
          replace hf := zo_b hf; obtain ⟨r57, er57, hf⟩ := hf
          refine zw_callV (n := 1) (ci := 6) (q := zc_cl[6]) (As := [.int (y8)]) (rest := []) S hK hw (zt_X6_isSettled l g h a56 y8 _ er57) zm_792 zm_793 zm_794 zq_X6_isSettled zm_69 (by decide +kernel) ⟨Nat.le_of_ble_eq_true rfl, Nat.le_of_ble_eq_true rfl⟩ rfl rfl rfl (zi_X6_isSettled er57) hl.1 rfl (by simp [zv_cat, zv_ci, zv_cj]) zd_X9_again_162 ⟨(by show (cl + 0) + (0 : Nat) ≤ (38 : Nat); omega), (by show (sl + 0) + (0 : Nat) ≤ (907 : Nat); omega)⟩ (fun H locs hw => ?_)
          replace hw : zc_W g h H locs := hw
          refine W.widen (k := ((cl + 0) + 0)) (n := ((sl + 0) + 0)) (Nat.le_refl _) (Nat.le_refl _) ?_
          refine lv_if_ne (tgt := 196) hx hb zd_X9_again_165 (by decide) (fun c58 => ?_) (fun c58 => ?_)
          · replace hf := zo_f c58 hf
            refine lv_iinc (i := 8) (v := (y8 + 1)) (lv' := [(8, .int ((y8 + 1))), (9, va_rf (r48)), (0, va_rf ((some q))), (3, va_rf (y3)), (5, .int (y5)), (6, .int (y6)), (7, va_rf (y7))]) hx hb zd_X9_again_196 hl (k := 6) rfl (congrArg (_ + ·) (by decide)) (by decide) (by simp [List.filter, zv_cat, zv_ci, zv_cj]) (fun ls hl => ?_)
            refine lv_goto (tgt := 123) hx hb zd_X9_again_199 (by decide) ?_
            exact ih h (y8 + 1) _ _ _ _ _ _ (by omega) (by omega) hf hw (lv_sub hl [2, 3, 4, 5, 6, 0] rfl) (fun H locs ls cl1 sl1 h1 h2 => kk H locs ls cl1 sl1 (by omega) (by omega))
          · replace hf := zo_t c58 hf
            refine zl_aload_n hx hb zd_X9_again_168 rfl (lv_at hl 1 rfl) ?_
            replace hf := zo_b hf; obtain ⟨v59, ev59, hf⟩ := hf
            obtain ⟨u60, u60e, u60v⟩ := zo_b ev59
            obtain rfl := zv_r_e u60v
            refine zw_get S hK hw zk_9 (k := 1) (by decide) rfl zm_308 (Or.inl rfl) u60e zd_X9_again_169 ?_
            replace hf := zo_b hf; obtain ⟨a61, na61, hf⟩ := hf
            refine W.eq (g2 := F0 m 172 ls [va_rf ((some a61))]) (by rw [na61] <;> rfl) ?_
            replace hf := zo_b hf; obtain ⟨v62, ev62, hf⟩ := hf
            obtain ⟨u63, u63e, u63v⟩ := zo_b ev62
            obtain rfl := zv_r_e u63v
            refine zw_get S hK hw zk_6 (k := 1) (by decide) rfl zm_135 (Or.inl rfl) u63e zd_X9_again_172 ?_
            refine zl_aload hx hb zd_X9_again_175 (lv_at hl 0 rfl) ?_
            refine zl_aload hx hb zd_X9_again_177 (lv_at hl 5 rfl) ?_
            refine zl_aload_n hx hb zd_X9_again_179 rfl (lv_at hl 1 rfl) ?_
            replace hf := zo_b hf; obtain ⟨v64, ev64, hf⟩ := hf
            obtain ⟨u65, u65e, u65v⟩ := zo_b ev64
            obtain rfl := zv_r_e u65v
            refine zw_get S hK hw zk_9 (k := 1) (by decide) rfl zm_308 (Or.inl rfl) u65e zd_X9_again_180 ?_
            replace hf := zo_b hf; obtain ⟨a66, na66, hf⟩ := hf
            refine W.eq (g2 := F0 m 183 ls [va_rf ((some a66)), va_rf (y7), va_rf (r48), va_rf (v62)]) (by rw [na66] <;> rfl) ?_
            replace hf := zo_b hf; obtain ⟨v67, ev67, hf⟩ := hf
            obtain ⟨u68, u68e, u68v⟩ := zo_b ev67
            obtain rfl := zv_r_e u68v
            refine zw_get S hK hw zk_6 (k := 1) (by decide) rfl zm_135 (Or.inl rfl) u68e zd_X9_again_183 ?_
            replace hf := zo_b hf; obtain ⟨a69, na69, hf⟩ := hf
            refine W.eq (g2 := F0 m 186 ls [va_rf ((some a69)), va_rf (y7), va_rf (r48), va_rf (v62)]) (by rw [na69] <;> rfl) ?_
            replace hf := zo_b hf; obtain ⟨r70, er70, hf⟩ := hf
            refine zw_callV (n := 0) (ci := 11) (q := zc_cl[11]) (As := []) (rest := [va_rf (y7), va_rf (r48), va_rf (v62)]) S hK hw (zt_Jx4a65c_size_8abf5 l g h a69 _ er70) zm_500 zm_425 zm_426 zq_Jx4a65c_size_8abf5 zm_72 (by decide +kernel) ⟨Nat.le_of_ble_eq_true rfl, Nat.le_of_ble_eq_true rfl⟩ rfl rfl rfl (zi_Jx4a65c_size_8abf5 er70) hl.1 rfl (by simp [zv_cat, zv_ci, zv_cj]) zd_X9_again_186 ⟨(by show ((cl + 0) + 0) + (0 : Nat) ≤ (38 : Nat); omega), (by show ((sl + 0) + 0) + (0 : Nat) ≤ (907 : Nat); omega)⟩ (fun H locs hw => ?_)
            replace hw : zc_W g h H locs := hw
            refine W.widen (k := (((cl + 0) + 0) + 0)) (n := (((sl + 0) + 0) + 0)) (Nat.le_refl _) (Nat.le_refl _) ?_
            refine W.eq (g2 := F0 m 189 ls [.int (r70), va_rf (y7), va_rf ((some a50)), va_rf (v62)]) (by rw [na50] <;> rfl) ?_
            replace hf := zo_b hf; obtain ⟨r71, er71, hf⟩ := hf
            refine zw_callV (n := 2) (ci := 3) (q := zc_cl[3]) (As := [va_rf (y7), .int (r70)]) (rest := [va_rf (v62)]) S hK hw (zt_X3_madeOn l g h a50 y7 r70 _ er71) zm_982 zm_983 zm_984 zq_X3_madeOn zm_87 (by decide +kernel) ⟨Nat.le_of_ble_eq_true rfl, Nat.le_of_ble_eq_true rfl⟩ rfl rfl rfl (zi_X3_madeOn er71) hl.1 rfl (by simp [zv_cat, zv_ci, zv_cj]) zd_X9_again_189 ⟨(by show (((cl + 0) + 0) + 0) + (1 : Nat) ≤ (38 : Nat); omega), (by show (((sl + 0) + 0) + 0) + (6 : Nat) ≤ (907 : Nat); omega)⟩ (fun H locs hw => ?_)
            replace hw : zc_W g r71.1 H locs := hw
            refine W.widen (k := ((((cl + 0) + 0) + 0) + 1)) (n := ((((sl + 0) + 0) + 0) + 6)) (Nat.le_refl _) (Nat.le_refl _) ?_
            replace hf := zo_b hf; obtain ⟨a72, na72, hf⟩ := hf
            refine W.eq (g2 := F0 m 192 ls [va_rf (r71.2), va_rf ((some a72))]) (by rw [na72] <;> rfl) ?_
            replace hf := zo_b hf; obtain ⟨r73, er73, hf⟩ := hf
            refine zw_callV (n := 1) (ci := 11) (q := zc_cl[11]) (As := [va_rf (r71.2)]) (rest := []) S hK hw (zt_Jx4a65c_add_9ea2d l g r71.1 a72 r71.2 _ er73) zm_549 zm_550 zm_551 zq_Jx4a65c_add_9ea2d zm_72 (by decide +kernel) ⟨Nat.le_of_ble_eq_true rfl, Nat.le_of_ble_eq_true rfl⟩ rfl rfl rfl (zi_Jx4a65c_add_9ea2d er73) hl.1 rfl (by simp [zv_cat, zv_ci, zv_cj]) zd_X9_again_192 ⟨(by show ((((cl + 0) + 0) + 0) + 1) + (1 : Nat) ≤ (38 : Nat); omega), (by show ((((sl + 0) + 0) + 0) + 6) + (40 : Nat) ≤ (907 : Nat); omega)⟩ (fun H locs hw => ?_)
            replace hw : zc_W g r73.1 H locs := hw
            refine W.widen (k := (((((cl + 0) + 0) + 0) + 1) + 1)) (n := (((((sl + 0) + 0) + 0) + 6) + 40)) (Nat.le_refl _) (Nat.le_refl _) ?_
            refine lv_pop hx hb zd_X9_again_195 rfl ?_
            refine lv_iinc (i := 8) (v := (y8 + 1)) (lv' := [(8, .int ((y8 + 1))), (9, va_rf (r48)), (0, va_rf ((some q))), (3, va_rf (y3)), (5, .int (y5)), (6, .int (y6)), (7, va_rf (y7))]) hx hb zd_X9_again_196 hl (k := 6) rfl (congrArg (_ + ·) (by decide)) (by decide) (by simp [List.filter, zv_cat, zv_ci, zv_cj]) (fun ls hl => ?_)
            refine lv_goto (tgt := 123) hx hb zd_X9_again_199 (by decide) ?_
            exact ih r73.1 (y8 + 1) _ _ _ _ _ _ (by omega) (by omega) hf hw (lv_sub hl [2, 3, 4, 5, 6, 0] rfl) (fun H locs ls cl1 sl1 h1 h2 => kk H locs ls cl1 sl1 (by omega) (by omega))
  unfold zf_X9_again at hf
  obtain ⟨-, hf⟩ := zo_n hf
  refine zl_aload_n hx hb zd_X9_again_0 rfl (lv_at hl 0 rfl) ?_
  replace hf := zo_b hf; obtain ⟨v1, ev1, hf⟩ := hf
  obtain ⟨u2, u2e, u2v⟩ := zo_b ev1
  obtain rfl := zv_r_e u2v
  refine zw_get S hK hw zk_9 (k := 1) (by decide) rfl zm_308 (Or.inl rfl) u2e zd_X9_again_1 ?_
  refine lv_iload_n hx hb zd_X9_again_4 rfl (lv_at hl 1 rfl) ?_
  replace hf := zo_b hf; obtain ⟨a3, na3, hf⟩ := hf
  refine W.eq (g2 := F0 m 5 ls [.int (x1), va_rf ((some a3))]) (by rw [na3] <;> rfl) ?_
  replace hf := zo_b hf; obtain ⟨r4, er4, hf⟩ := hf
  refine zw_callV (n := 1) (ci := 6) (q := zc_cl[6]) (As := [.int (x1)]) (rest := []) S hK hw (zt_X6_revisionAt l g h a3 x1 _ er4) zm_482 zm_483 zm_484 zq_X6_revisionAt zm_69 (by decide +kernel) ⟨Nat.le_of_ble_eq_true rfl, Nat.le_of_ble_eq_true rfl⟩ rfl rfl rfl (zi_X6_revisionAt er4) hl.1 rfl (by simp [zv_cat, zv_ci, zv_cj]) zd_X9_again_5 ⟨(by show 0 + (0 : Nat) ≤ (38 : Nat); omega), (by show 0 + (0 : Nat) ≤ (907 : Nat); omega)⟩ (fun H locs hw => ?_)
  replace hw : zc_W g h H locs := hw
  refine W.widen (k := (0 + 0)) (n := (0 + 0)) (Nat.le_refl _) (Nat.le_refl _) ?_
  refine zl_astore_n (i := 3) (lv' := [(3, va_rf (r4)), (0, va_rf ((some q))), (1, .int (x1)), (2, .int (x2))]) hx hb zd_X9_again_8 rfl hl (by decide) rfl (fun ls hl => ?_)
  refine zl_aload_n hx hb zd_X9_again_9 rfl (lv_at hl 1 rfl) ?_
  replace hf := zo_b hf; obtain ⟨v5, ev5, hf⟩ := hf
  obtain ⟨u6, u6e, u6v⟩ := zo_b ev5
  obtain rfl := zv_r_e u6v
  refine zw_get S hK hw zk_9 (k := 1) (by decide) rfl zm_308 (Or.inl rfl) u6e zd_X9_again_10 ?_
  refine lv_iload_n hx hb zd_X9_again_13 rfl (lv_at hl 3 rfl) ?_
  replace hf := zo_b hf; obtain ⟨a7, na7, hf⟩ := hf
  refine W.eq (g2 := F0 m 14 ls [.int (x2), va_rf ((some a7))]) (by rw [na7] <;> rfl) ?_
  replace hf := zo_b hf; obtain ⟨r8, er8, hf⟩ := hf
  refine zw_callV (n := 1) (ci := 6) (q := zc_cl[6]) (As := [.int (x2)]) (rest := []) S hK hw (zt_X6_revisionAt l g h a7 x2 _ er8) zm_482 zm_483 zm_484 zq_X6_revisionAt zm_69 (by decide +kernel) ⟨Nat.le_of_ble_eq_true rfl, Nat.le_of_ble_eq_true rfl⟩ rfl rfl rfl (zi_X6_revisionAt er8) hl.1 rfl (by simp [zv_cat, zv_ci, zv_cj]) zd_X9_again_14 ⟨(by show (0 + 0) + (0 : Nat) ≤ (38 : Nat); omega), (by show (0 + 0) + (0 : Nat) ≤ (907 : Nat); omega)⟩ (fun H locs hw => ?_)
  replace hw : zc_W g h H locs := hw
  refine W.widen (k := ((0 + 0) + 0)) (n := ((0 + 0) + 0)) (Nat.le_refl _) (Nat.le_refl _) ?_
  refine zl_astore (i := 4) (lv' := [(4, va_rf (r8)), (3, va_rf (r4)), (0, va_rf ((some q))), (1, .int (x1)), (2, .int (x2))]) hx hb zd_X9_again_17 hl (by decide) (by simp [List.filter, zv_cat, zv_ci, zv_cj]) (fun ls hl => ?_)
  refine zl_aload_n hx hb zd_X9_again_19 rfl (lv_at hl 1 rfl) ?_
  have k28h : ∀ (_ : Unit) (H : Heap) (locs : List Loc) (ls : Array Slot), (
      (zf_X9_refuse h q (-1)).bind fun r10 =>
      some (r10.1, r10.2)
      ) = some res → zc_W g h H locs → lv_has ls 10 [(0, va_rf ((some q)))] → W p l e zr_X9_again s m [va_rf ((some q)), .int (x1), .int (x2)].toArray below meth c H locs ((0 + 0) + 0) ((0 + 0) + 0) (zc_Q g below zr_X9_again (some (.int (res.2))) res.1 [va_rf ((some q)), .int (x1), .int (x2)] s) (F0 m 28 ls []) := by
    intro _ H locs ls hf hw hl
    refine zl_aload_n hx hb zd_X9_again_28 rfl (lv_at hl 0 rfl) ?_
    refine lv_iconst (v := (-1)) hx hb zd_X9_again_29 (by decide) ?_
    replace hf := zo_b hf; obtain ⟨r10, er10, hf⟩ := hf
    refine zw_callV (n := 1) (ci := 9) (q := zc_cl[9]) (As := [.int ((-1))]) (rest := []) S hK hw (zt_X9_refuse l g h q (-1) _ er10) zm_349 zm_351 zm_1 zq_X9_refuse zm_68 (by decide +kernel) ⟨Nat.le_of_ble_eq_true rfl, Nat.le_of_ble_eq_true rfl⟩ rfl rfl rfl (zi_X9_refuse er10) hl.1 rfl (by simp [zv_cat, zv_ci, zv_cj]) zd_X9_again_30 ⟨(by show ((0 + 0) + 0) + (0 : Nat) ≤ (38 : Nat); omega), (by show ((0 + 0) + 0) + (0 : Nat) ≤ (907 : Nat); omega)⟩ (fun H locs hw => ?_)
    replace hw : zc_W g r10.1 H locs := hw
    refine W.widen (k := (((0 + 0) + 0) + 0)) (n := (((0 + 0) + 0) + 0)) (Nat.le_refl _) (Nat.le_refl _) ?_
    have hres := Option.some.inj hf; subst hres
    exact zw_iret (v := r10.2) (ty := .int) hx hb hr hlk rfl hw zd_X9_again_33 (by show _ ≤ (38 : Nat); omega) (by show _ ≤ (907 : Nat); omega)
  refine zl_ifnull (tgt := 28) hx hb zd_X9_again_20 (by decide) (fun c9 => ?_) (fun c9 => ?_)
  · replace hf := zo_t c9 hf
    exact k28h () _ _ _ hf hw (lv_sub hl [2] rfl)
  · replace hf := zo_f c9 hf
    refine zl_aload hx hb zd_X9_again_23 (lv_at hl 0 rfl) ?_
    refine zl_ifnonnull (tgt := 34) hx hb zd_X9_again_25 (by decide) (fun c11 => ?_) (fun c11 => ?_)
    · replace hf := zo_f c11 hf
      refine zl_aload hx hb zd_X9_again_34 (lv_at hl 0 rfl) ?_
      refine zl_aload_n hx hb zd_X9_again_36 rfl (lv_at hl 1 rfl) ?_
      replace hf := zo_b hf; obtain ⟨a12, na12, hf⟩ := hf
      refine W.eq (g2 := F0 m 37 ls [va_rf (r4), va_rf ((some a12))]) (by rw [na12] <;> rfl) ?_
      replace hf := zo_b hf; obtain ⟨r13, er13, hf⟩ := hf
      refine zw_callV (n := 1) (ci := 4) (q := zc_cl[4]) (As := [va_rf (r4)]) (rest := []) S hK hw (zt_X4_isBehind l g h a12 r4 _ er13) zm_907 zm_908 zm_909 zq_X4_isBehind zm_84 (by decide +kernel) ⟨Nat.le_of_ble_eq_true rfl, Nat.le_of_ble_eq_true rfl⟩ rfl rfl rfl (zi_X4_isBehind er13) hl.1 rfl (by simp [zv_cat, zv_ci, zv_cj]) zd_X9_again_37 ⟨(by show ((0 + 0) + 0) + (0 : Nat) ≤ (38 : Nat); omega), (by show ((0 + 0) + 0) + (0 : Nat) ≤ (907 : Nat); omega)⟩ (fun H locs hw => ?_)
      replace hw : zc_W g h H locs := hw
      refine W.widen (k := (((0 + 0) + 0) + 0)) (n := (((0 + 0) + 0) + 0)) (Nat.le_refl _) (Nat.le_refl _) ?_
      refine lv_if_eq (tgt := 50) hx hb zd_X9_again_40 (by decide) (fun c14 => ?_) (fun c14 => ?_)
      · replace hf := zo_t c14 hf
        refine zl_aload_n hx hb zd_X9_again_50 rfl (lv_at hl 2 rfl) ?_
        replace hf := zo_b hf; obtain ⟨v15, ev15, hf⟩ := hf
        obtain ⟨u16, u16e, u16v⟩ := zo_b ev15
        obtain rfl := zv_r_e u16v
        refine zw_get S hK hw zk_9 (k := 1) (by decide) rfl zm_308 (Or.inl rfl) u16e zd_X9_again_51 ?_
        replace hf := zo_b hf; obtain ⟨a17, na17, hf⟩ := hf
        refine W.eq (g2 := F0 m 54 ls [va_rf ((some a17))]) (by rw [na17] <;> rfl) ?_
        replace hf := zo_b hf; obtain ⟨v18, ev18, hf⟩ := hf
        obtain ⟨u19, u19e, u19v⟩ := zo_b ev18
        obtain rfl := zv_r_e u19v
        refine zw_get S hK hw zk_6 (k := 1) (by decide) rfl zm_135 (Or.inl rfl) u19e zd_X9_again_54 ?_
        replace hf := zo_b hf; obtain ⟨a20, na20, hf⟩ := hf
        refine W.eq (g2 := F0 m 57 ls [va_rf ((some a20))]) (by rw [na20] <;> rfl) ?_
        replace hf := zo_b hf; obtain ⟨r21, er21, hf⟩ := hf
        refine zw_callV (n := 0) (ci := 11) (q := zc_cl[11]) (As := []) (rest := []) S hK hw (zt_Jx4a65c_size_8abf5 l g h a20 _ er21) zm_500 zm_425 zm_426 zq_Jx4a65c_size_8abf5 zm_72 (by decide +kernel) ⟨Nat.le_of_ble_eq_true rfl, Nat.le_of_ble_eq_true rfl⟩ rfl rfl rfl (zi_Jx4a65c_size_8abf5 er21) hl.1 rfl (by simp [zv_cat, zv_ci, zv_cj]) zd_X9_again_57 ⟨(by show (((0 + 0) + 0) + 0) + (0 : Nat) ≤ (38 : Nat); omega), (by show (((0 + 0) + 0) + 0) + (0 : Nat) ≤ (907 : Nat); omega)⟩ (fun H locs hw => ?_)
        replace hw : zc_W g h H locs := hw
        refine W.widen (k := ((((0 + 0) + 0) + 0) + 0)) (n := ((((0 + 0) + 0) + 0) + 0)) (Nat.le_refl _) (Nat.le_refl _) ?_
        refine lv_istore (i := 5) (lv' := [(5, .int (r21)), (4, va_rf (r8)), (3, va_rf (r4)), (0, va_rf ((some q))), (1, .int (x1)), (2, .int (x2))]) hx hb zd_X9_again_60 hl (by decide) (by simp [List.filter, zv_cat, zv_ci, zv_cj]) (fun ls hl => ?_)
        refine zl_aload_n hx hb zd_X9_again_62 rfl (lv_at hl 3 rfl) ?_
        replace hf := zo_b hf; obtain ⟨v22, ev22, hf⟩ := hf
        obtain ⟨u23, u23e, u23v⟩ := zo_b ev22
        obtain rfl := zv_r_e u23v
        refine zw_get S hK hw zk_9 (k := 1) (by decide) rfl zm_308 (Or.inl rfl) u23e zd_X9_again_63 ?_
        refine zl_aload_n hx hb zd_X9_again_66 rfl (lv_at hl 2 rfl) ?_
        replace hf := zo_b hf; obtain ⟨a24, na24, hf⟩ := hf
        refine W.eq (g2 := F0 m 67 ls [va_rf (r4), va_rf ((some a24))]) (by rw [na24] <;> rfl) ?_
        replace hf := zo_b hf; obtain ⟨r25, er25, hf⟩ := hf
        refine zw_callV (n := 1) (ci := 6) (q := zc_cl[6]) (As := [va_rf (r4)]) (rest := []) S hK hw (zt_X6_unsettledOn l g h a24 r4 _ er25) zm_971 zm_972 zm_973 zq_X6_unsettledOn zm_69 (by decide +kernel) ⟨Nat.le_of_ble_eq_true rfl, Nat.le_of_ble_eq_true rfl⟩ rfl rfl rfl (zi_X6_unsettledOn er25) hl.1 rfl (by simp [zv_cat, zv_ci, zv_cj]) zd_X9_again_67 ⟨(by show ((((0 + 0) + 0) + 0) + 0) + (0 : Nat) ≤ (38 : Nat); omega), (by show ((((0 + 0) + 0) + 0) + 0) + (0 : Nat) ≤ (907 : Nat); omega)⟩ (fun H locs hw => ?_)
        replace hw : zc_W g h H locs := hw
        refine W.widen (k := (((((0 + 0) + 0) + 0) + 0) + 0)) (n := (((((0 + 0) + 0) + 0) + 0) + 0)) (Nat.le_refl _) (Nat.le_refl _) ?_
        refine lv_istore (i := 6) (lv' := [(6, .int (r25)), (5, .int (r21)), (4, va_rf (r8)), (3, va_rf (r4)), (0, va_rf ((some q))), (1, .int (x1)), (2, .int (x2))]) hx hb zd_X9_again_70 hl (by decide) rfl (fun ls hl => ?_)
        refine zl_aload_n hx hb zd_X9_again_72 rfl (lv_at hl 4 rfl) ?_
        replace hf := zo_b hf; obtain ⟨v26, ev26, hf⟩ := hf
        obtain ⟨u27, u27e, u27v⟩ := zo_b ev26
        obtain rfl := zv_r_e u27v
        refine zw_get S hK hw zk_9 (k := 1) (by decide) rfl zm_308 (Or.inl rfl) u27e zd_X9_again_73 ?_
        replace hf := zo_b hf; obtain ⟨a28, na28, hf⟩ := hf
        refine W.eq (g2 := F0 m 76 ls [va_rf ((some a28))]) (by rw [na28] <;> rfl) ?_
        replace hf := zo_b hf; obtain ⟨v29, ev29, hf⟩ := hf
        obtain ⟨u30, u30e, u30v⟩ := zo_b ev29
        obtain rfl := zv_r_e u30v
        refine zw_get S hK hw zk_6 (k := 0) (by decide) rfl zm_132 (Or.inl rfl) u30e zd_X9_again_76 ?_
        replace hf := zo_b hf; obtain ⟨a31, na31, hf⟩ := hf
        refine W.eq (g2 := F0 m 79 ls [va_rf ((some a31))]) (by rw [na31] <;> rfl) ?_
        replace hf := zo_b hf; obtain ⟨r32, er32, hf⟩ := hf
        refine zw_callV (n := 0) (ci := 11) (q := zc_cl[11]) (As := []) (rest := []) S hK hw (zt_Jx4a65c_size_8abf5 l g h a31 _ er32) zm_500 zm_425 zm_426 zq_Jx4a65c_size_8abf5 zm_72 (by decide +kernel) ⟨Nat.le_of_ble_eq_true rfl, Nat.le_of_ble_eq_true rfl⟩ rfl rfl rfl (zi_Jx4a65c_size_8abf5 er32) hl.1 rfl (by simp [zv_cat, zv_ci, zv_cj]) zd_X9_again_79 ⟨(by show (((((0 + 0) + 0) + 0) + 0) + 0) + (0 : Nat) ≤ (38 : Nat); omega), (by show (((((0 + 0) + 0) + 0) + 0) + 0) + (0 : Nat) ≤ (907 : Nat); omega)⟩ (fun H locs hw => ?_)
        replace hw : zc_W g h H locs := hw
        refine W.widen (k := ((((((0 + 0) + 0) + 0) + 0) + 0) + 0)) (n := ((((((0 + 0) + 0) + 0) + 0) + 0) + 0)) (Nat.le_refl _) (Nat.le_refl _) ?_
        refine lv_bipush (v := 16) hx hb zd_X9_again_82 (by decide) ?_
        have k97h : ∀ (_ : Unit) (H : Heap) (locs : List Loc) (ls : Array Slot), (
            (zf_X9_refuse h q (-7)).bind fun r34 =>
            some (r34.1, r34.2)
            ) = some res → zc_W g h H locs → lv_has ls 10 [(0, va_rf ((some q)))] → W p l e zr_X9_again s m [va_rf ((some q)), .int (x1), .int (x2)].toArray below meth c H locs ((((((0 + 0) + 0) + 0) + 0) + 0) + 0) ((((((0 + 0) + 0) + 0) + 0) + 0) + 0) (zc_Q g below zr_X9_again (some (.int (res.2))) res.1 [va_rf ((some q)), .int (x1), .int (x2)] s) (F0 m 97 ls []) := by
          intro _ H locs ls hf hw hl
          refine zl_aload_n hx hb zd_X9_again_97 rfl (lv_at hl 0 rfl) ?_
          refine lv_bipush (v := (-7)) hx hb zd_X9_again_98 (by decide) ?_
          replace hf := zo_b hf; obtain ⟨r34, er34, hf⟩ := hf
          refine zw_callV (n := 1) (ci := 9) (q := zc_cl[9]) (As := [.int ((-7))]) (rest := []) S hK hw (zt_X9_refuse l g h q (-7) _ er34) zm_349 zm_351 zm_1 zq_X9_refuse zm_68 (by decide +kernel) ⟨Nat.le_of_ble_eq_true rfl, Nat.le_of_ble_eq_true rfl⟩ rfl rfl rfl (zi_X9_refuse er34) hl.1 rfl (by simp [zv_cat, zv_ci, zv_cj]) zd_X9_again_100 ⟨(by show ((((((0 + 0) + 0) + 0) + 0) + 0) + 0) + (0 : Nat) ≤ (38 : Nat); omega), (by show ((((((0 + 0) + 0) + 0) + 0) + 0) + 0) + (0 : Nat) ≤ (907 : Nat); omega)⟩ (fun H locs hw => ?_)
          replace hw : zc_W g r34.1 H locs := hw
          refine W.widen (k := (((((((0 + 0) + 0) + 0) + 0) + 0) + 0) + 0)) (n := (((((((0 + 0) + 0) + 0) + 0) + 0) + 0) + 0)) (Nat.le_refl _) (Nat.le_refl _) ?_
          have hres := Option.some.inj hf; subst hres
          exact zw_iret (v := r34.2) (ty := .int) hx hb hr hlk rfl hw zd_X9_again_103 (by show _ ≤ (38 : Nat); omega) (by show _ ≤ (907 : Nat); omega)
        refine lv_icmp_ge (tgt := 97) hx hb zd_X9_again_84 (by decide) (fun c33 => ?_) (fun c33 => ?_)
        · replace hf := zo_t c33 hf
          exact k97h () _ _ _ hf hw (lv_sub hl [4] rfl)
        · replace hf := zo_f c33 hf
          refine lv_iload hx hb zd_X9_again_87 (lv_at hl 1 rfl) ?_
          refine lv_iload hx hb zd_X9_again_89 (lv_at hl 0 rfl) ?_
          refine lv_iadd hx hb zd_X9_again_91 ?_
          refine lv_bipush (v := 16) hx hb zd_X9_again_92 (by decide) ?_
          refine lv_icmp_le (tgt := 104) hx hb zd_X9_again_94 (by decide) (fun c35 => ?_) (fun c35 => ?_)
          · replace hf := zo_t c35 hf
            refine zl_aload_n hx hb zd_X9_again_104 rfl (lv_at hl 4 rfl) ?_
            replace hf := zo_b hf; obtain ⟨v36, ev36, hf⟩ := hf
            obtain ⟨u37, u37e, u37v⟩ := zo_b ev36
            obtain rfl := zv_r_e u37v
            refine zw_get S hK hw zk_9 (k := 6) (by decide) rfl zm_313 (Or.inl rfl) u37e zd_X9_again_105 ?_
            refine zl_aload_n hx hb zd_X9_again_108 rfl (lv_at hl 3 rfl) ?_
            replace hf := zo_b hf; obtain ⟨a38, na38, hf⟩ := hf
            refine W.eq (g2 := F0 m 109 ls [va_rf (r4), va_rf ((some a38))]) (by rw [na38] <;> rfl) ?_
            replace hf := zo_b hf; obtain ⟨r39, er39, hf⟩ := hf
            refine zw_callV (n := 1) (ci := 0) (q := zc_cl[0]) (As := [va_rf (r4)]) (rest := []) S hK hw (zt_X0_startFrom l g h a38 r4 _ er39) zm_976 zm_977 zm_978 zq_X0_startFrom zm_73 (by decide +kernel) ⟨Nat.le_of_ble_eq_true rfl, Nat.le_of_ble_eq_true rfl⟩ rfl rfl rfl (zi_X0_startFrom er39) hl.1 rfl (by simp [zv_cat, zv_ci, zv_cj]) zd_X9_again_109 ⟨(by show ((((((0 + 0) + 0) + 0) + 0) + 0) + 0) + (0 : Nat) ≤ (38 : Nat); omega), (by show ((((((0 + 0) + 0) + 0) + 0) + 0) + 0) + (0 : Nat) ≤ (907 : Nat); omega)⟩ (fun H locs hw => ?_)
            replace hw : zc_W g r39 H locs := hw
            refine W.widen (k := (((((((0 + 0) + 0) + 0) + 0) + 0) + 0) + 0)) (n := (((((((0 + 0) + 0) + 0) + 0) + 0) + 0) + 0)) (Nat.le_refl _) (Nat.le_refl _) ?_
            refine zl_aload_n hx hb zd_X9_again_112 rfl (lv_at hl 4 rfl) ?_
            refine zl_aload hx hb zd_X9_again_113 (lv_at hl 2 rfl) ?_
            replace hf := zo_b hf; obtain ⟨r40, er40, hf⟩ := hf
            refine zw_callV (n := 1) (ci := 9) (q := zc_cl[9]) (As := [va_rf (r8)]) (rest := []) S hK hw (zt_X9_addRevision l g r39 q r8 _ er40) zm_501 zm_503 zm_3 zq_X9_addRevision zm_68 (by decide +kernel) ⟨Nat.le_of_ble_eq_true rfl, Nat.le_of_ble_eq_true rfl⟩ rfl rfl rfl (zi_X9_addRevision er40) hl.1 rfl (by simp [zv_cat, zv_ci, zv_cj]) zd_X9_again_115 ⟨(by show (((((((0 + 0) + 0) + 0) + 0) + 0) + 0) + 0) + (4 : Nat) ≤ (38 : Nat); omega), (by show (((((((0 + 0) + 0) + 0) + 0) + 0) + 0) + 0) + (125 : Nat) ≤ (907 : Nat); omega)⟩ (fun H locs hw => ?_)
            replace hw : zc_W g r40.1 H locs := hw
            refine W.widen (k := ((((((((0 + 0) + 0) + 0) + 0) + 0) + 0) + 0) + 4)) (n := ((((((((0 + 0) + 0) + 0) + 0) + 0) + 0) + 0) + 125)) (Nat.le_refl _) (Nat.le_refl _) ?_
            refine zl_astore (i := 7) (lv' := [(7, va_rf (r40.2)), (6, .int (r25)), (5, .int (r21)), (4, va_rf (r8)), (3, va_rf (r4)), (0, va_rf ((some q))), (1, .int (x1)), (2, .int (x2))]) hx hb zd_X9_again_118 hl (by decide) rfl (fun ls hl => ?_)
            refine lv_iconst (v := 0) hx hb zd_X9_again_120 (by decide) ?_
            refine lv_istore (i := 8) (lv' := [(8, .int (0)), (7, va_rf (r40.2)), (6, .int (r25)), (5, .int (r21)), (4, va_rf (r8)), (3, va_rf (r4)), (0, va_rf ((some q))), (1, .int (x1)), (2, .int (x2))]) hx hb zd_X9_again_121 hl (by decide) (by simp [List.filter, zv_cat, zv_ci, zv_cj]) (fun ls hl => ?_)
            replace hf := zo_b hf; obtain ⟨w74, w74e, hf⟩ := hf
            refine L123 r4 r21 r25 r40.2 17 r40.1 0 _ _ _ _ _ _ (by omega) (by omega) w74e hw (lv_sub hl [6, 5, 3, 2, 1, 0] rfl) (fun H locs ls cl75 sl76 hcl75 hsl76 hw hl => ?_)
            refine lv_iload hx hb zd_X9_again_202 (lv_at hl 0 rfl) ?_
            have hres := Option.some.inj hf; subst hres
            exact zw_iret (v := r25) (ty := .int) hx hb hr hlk rfl hw zd_X9_again_204 (by show _ ≤ (38 : Nat); omega) (by show _ ≤ (907 : Nat); omega)
          · replace hf := zo_f c35 hf
            exact k97h () _ _ _ hf hw (lv_sub hl [4] rfl)
      · replace hf := zo_f c14 hf
        refine zl_aload_n hx hb zd_X9_again_43 rfl (lv_at hl 2 rfl) ?_
        refine lv_bipush (v := (-6)) hx hb zd_X9_again_44 (by decide) ?_
        replace hf := zo_b hf; obtain ⟨r77, er77, hf⟩ := hf
        refine zw_callV (n := 1) (ci := 9) (q := zc_cl[9]) (As := [.int ((-6))]) (rest := []) S hK hw (zt_X9_refuse l g h q (-6) _ er77) zm_349 zm_351 zm_1 zq_X9_refuse zm_68 (by decide +kernel) ⟨Nat.le_of_ble_eq_true rfl, Nat.le_of_ble_eq_true rfl⟩ rfl rfl rfl (zi_X9_refuse er77) hl.1 rfl (by simp [zv_cat, zv_ci, zv_cj]) zd_X9_again_46 ⟨(by show (((0 + 0) + 0) + 0) + (0 : Nat) ≤ (38 : Nat); omega), (by show (((0 + 0) + 0) + 0) + (0 : Nat) ≤ (907 : Nat); omega)⟩ (fun H locs hw => ?_)
        replace hw : zc_W g r77.1 H locs := hw
        refine W.widen (k := ((((0 + 0) + 0) + 0) + 0)) (n := ((((0 + 0) + 0) + 0) + 0)) (Nat.le_refl _) (Nat.le_refl _) ?_
        have hres := Option.some.inj hf; subst hres
        exact zw_iret (v := r77.2) (ty := .int) hx hb hr hlk rfl hw zd_X9_again_49 (by show _ ≤ (38 : Nat); omega) (by show _ ≤ (907 : Nat); omega)
    · replace hf := zo_t c11 hf
      exact k28h () _ _ _ hf hw (lv_sub hl [2] rfl)
def zf_X9_driftDraft (h : zc_H) (q : Nat) : Option (zc_H) :=
  if ¬ zf_is h q 9 = true then none else
  (zf_gr h q 9 1).bind fun v1 =>
  v1.bind fun a3 =>
  (zf_X6_draw h a3 4).bind fun r4 =>
  (zf_gr r4.1 q 9 6).bind fun v5 =>
  v5.bind fun a7 =>
  (zf_gi r4.1 a7 0 1).bind fun v8 =>
  let k33 := fun (h33j : zc_H) (s33_0 : Int32) =>
    if r4.2 = 0 then
      if 24 ≤ v8 then
        some h33j
      else
      (zf_gr h33j q 9 6).bind fun v28 =>
      (zf_gr h33j q 9 1).bind fun v30 =>
      v30.bind fun a32 =>
      (zf_X6_draw h33j a32 26).bind fun r33 =>
      v28.bind fun a34 =>
      (zf_X0_insert r33.1 a34 s33_0 (((97 + r33.2) : Int32).toInt64)).bind fun r35 =>
      some r35
    else
    if v8 = 0 then
      some h33j
    else
    (zf_gr h33j q 9 6).bind fun v13 =>
    v13.bind fun a15 =>
    (zf_X0_remove h33j a15 s33_0).bind fun r16 =>
    if r4.2 = 2 then
      (zf_gr r16.1 q 9 6).bind fun v23 =>
      v23.bind fun a25 =>
      (zf_X0_insert r16.1 a25 0 r16.2).bind fun r26 =>
      some r26
    else
    if r4.2 = 3 then
      (zf_gr r16.1 q 9 6).bind fun v19 =>
      v19.bind fun a21 =>
      (zf_X0_insert r16.1 a21 s33_0 122).bind fun r22 =>
      some r22
    else
    some r16.1
  if v8 = 0 then
    k33 r4.1 0
  else
  (zf_gr r4.1 q 9 1).bind fun v36 =>
  v36.bind fun a38 =>
  (zf_X6_draw r4.1 a38 v8).bind fun r39 =>
  k33 r39.1 r39.2
abbrev zr_X9_driftDraft : Room := { frames := 1, cells := 0, slots := 0, locals := 24 }
theorem zi_X9_driftDraft {h : zc_H} {q : Nat} {res : zc_H} (hf : zf_X9_driftDraft h q = some res) : zf_is h q 9 = true := Decidable.not_not.mp (zo_n hf).1
set_option maxHeartbeats 4000000 in
set_option maxRecDepth 20000 in
theorem zt_X9_driftDraft (l : Launch) (g : zc_G) (h : zc_H) (q : Nat) (res : zc_H) (hf : zf_X9_driftDraft h q = some res) : zc_M l g yX9_driftDraft cX9_driftDraft 6 none zr_X9_driftDraft h [va_rf ((some q))] res none := by
  refine zc_M.of (by decide) (by simp [lg_sl, zv_cat, zv_ci, zv_cj]) ?_
  intro p e s m below meth c ls S hK hw hr hlk hnm hl
  replace S : CallFix p m c cX9_driftDraft 6 s [va_rf ((some q))].toArray (zc_ws yX9_driftDraft cX9_driftDraft 6 none) RX9 := S
  have hx := S.1
  have hb := S.2.1
  replace hl : lv_has ls 6 [(0, va_rf ((some q)))] := by simpa [lv_args, zv_cat, zv_ci, zv_cj] using hl
  generalize s.heap = H at hw ⊢
  obtain ⟨locs, hlocs⟩ : ∃ L : List Loc, L = [] := ⟨_, rfl⟩
  rw [← hlocs] at hw ⊢
  unfold zf_X9_driftDraft at hf
  obtain ⟨-, hf⟩ := zo_n hf
  refine zl_aload_n hx hb zd_X9_driftDraft_0 rfl (lv_at hl 0 rfl) ?_
  replace hf := zo_b hf; obtain ⟨v1, ev1, hf⟩ := hf
  obtain ⟨u2, u2e, u2v⟩ := zo_b ev1
  obtain rfl := zv_r_e u2v
  refine zw_get S hK hw zk_9 (k := 1) (by decide) rfl zm_308 (Or.inl rfl) u2e zd_X9_driftDraft_1 ?_
  refine lv_iconst (v := 4) hx hb zd_X9_driftDraft_4 (by decide) ?_
  replace hf := zo_b hf; obtain ⟨a3, na3, hf⟩ := hf
  refine W.eq (g2 := F0 m 5 ls [.int (4), va_rf ((some a3))]) (by rw [na3] <;> rfl) ?_
  replace hf := zo_b hf; obtain ⟨r4, er4, hf⟩ := hf
  refine zw_callV (n := 1) (ci := 6) (q := zc_cl[6]) (As := [.int (4)]) (rest := []) S hK hw (zt_X6_draw l g h a3 4 _ er4) zm_996 zm_997 zm_998 zq_X6_draw zm_69 (by decide +kernel) ⟨Nat.le_of_ble_eq_true rfl, Nat.le_of_ble_eq_true rfl⟩ rfl rfl rfl (zi_X6_draw er4) hl.1 rfl (by simp [zv_cat, zv_ci, zv_cj]) zd_X9_driftDraft_5 ⟨(Nat.le_refl 0), (Nat.le_refl 0)⟩ (fun H locs hw => ?_)
  replace hw : zc_W g r4.1 H locs := hw
  refine lv_istore_n (i := 1) (lv' := [(1, .int (r4.2)), (0, va_rf ((some q)))]) hx hb zd_X9_driftDraft_8 rfl hl (by decide) rfl (fun ls hl => ?_)
  refine zl_aload_n hx hb zd_X9_driftDraft_9 rfl (lv_at hl 1 rfl) ?_
  replace hf := zo_b hf; obtain ⟨v5, ev5, hf⟩ := hf
  obtain ⟨u6, u6e, u6v⟩ := zo_b ev5
  obtain rfl := zv_r_e u6v
  refine zw_get S hK hw zk_9 (k := 6) (by decide) rfl zm_313 (Or.inl rfl) u6e zd_X9_driftDraft_10 ?_
  replace hf := zo_b hf; obtain ⟨a7, na7, hf⟩ := hf
  refine W.eq (g2 := F0 m 13 ls [va_rf ((some a7))]) (by rw [na7] <;> rfl) ?_
  replace hf := zo_b hf; obtain ⟨v8, ev8, hf⟩ := hf
  obtain ⟨u9, u9e, u9v⟩ := zo_b ev8
  obtain rfl := zv_i_e u9v
  refine zw_get S hK hw zk_0 (k := 1) (by decide) rfl zm_169 (Or.inl rfl) u9e zd_X9_driftDraft_13 ?_
  refine lv_istore_n (i := 2) (lv' := [(2, .int (v8)), (1, .int (r4.2)), (0, va_rf ((some q)))]) hx hb zd_X9_driftDraft_16 rfl hl (by decide) rfl (fun ls hl => ?_)
  refine lv_iload_n hx hb zd_X9_driftDraft_17 rfl (lv_at hl 0 rfl) ?_
  have k33h : ∀ (h33j : zc_H) (s33_0 : Int32) (H : Heap) (locs : List Loc) (ls : Array Slot), (
      if r4.2 = 0 then
        if 24 ≤ v8 then
          some h33j
        else
        (zf_gr h33j q 9 6).bind fun v28 =>
        (zf_gr h33j q 9 1).bind fun v30 =>
        v30.bind fun a32 =>
        (zf_X6_draw h33j a32 26).bind fun r33 =>
        v28.bind fun a34 =>
        (zf_X0_insert r33.1 a34 s33_0 (((97 + r33.2) : Int32).toInt64)).bind fun r35 =>
        some r35
      else
      if v8 = 0 then
        some h33j
      else
      (zf_gr h33j q 9 6).bind fun v13 =>
      v13.bind fun a15 =>
      (zf_X0_remove h33j a15 s33_0).bind fun r16 =>
      if r4.2 = 2 then
        (zf_gr r16.1 q 9 6).bind fun v23 =>
        v23.bind fun a25 =>
        (zf_X0_insert r16.1 a25 0 r16.2).bind fun r26 =>
        some r26
      else
      if r4.2 = 3 then
        (zf_gr r16.1 q 9 6).bind fun v19 =>
        v19.bind fun a21 =>
        (zf_X0_insert r16.1 a21 s33_0 122).bind fun r22 =>
        some r22
      else
      some r16.1
      ) = some res → zc_W g h33j H locs → lv_has ls 6 [(0, va_rf ((some q))), (1, .int (r4.2)), (2, .int (v8))] → W p l e zr_X9_driftDraft s m [va_rf ((some q))].toArray below meth c H locs (0 + 0) (0 + 0) (zc_Q g below zr_X9_driftDraft none res [va_rf ((some q))] s) (F0 m 33 ls [.int (s33_0)]) := by
    intro h33j s33_0 H locs ls hf hw hl
    refine lv_istore_n (i := 3) (lv' := [(3, .int (s33_0)), (0, va_rf ((some q))), (1, .int (r4.2)), (2, .int (v8))]) hx hb zd_X9_driftDraft_33 rfl hl (by decide) rfl (fun ls hl => ?_)
    refine lv_iload_n hx hb zd_X9_driftDraft_34 rfl (lv_at hl 2 rfl) ?_
    refine lv_if_ne (tgt := 66) hx hb zd_X9_driftDraft_35 (by decide) (fun c11 => ?_) (fun c11 => ?_)
    · replace hf := zo_f c11 hf
      refine lv_iload_n hx hb zd_X9_driftDraft_66 rfl (lv_at hl 3 rfl) ?_
      refine lv_if_ne (tgt := 71) hx hb zd_X9_driftDraft_67 (by decide) (fun c12 => ?_) (fun c12 => ?_)
      · replace hf := zo_f c12 hf
        refine zl_aload_n hx hb zd_X9_driftDraft_71 rfl (lv_at hl 1 rfl) ?_
        replace hf := zo_b hf; obtain ⟨v13, ev13, hf⟩ := hf
        obtain ⟨u14, u14e, u14v⟩ := zo_b ev13
        obtain rfl := zv_r_e u14v
        refine zw_get S hK hw zk_9 (k := 6) (by decide) rfl zm_313 (Or.inl rfl) u14e zd_X9_driftDraft_72 ?_
        refine lv_iload_n hx hb zd_X9_driftDraft_75 rfl (lv_at hl 0 rfl) ?_
        replace hf := zo_b hf; obtain ⟨a15, na15, hf⟩ := hf
        refine W.eq (g2 := F0 m 76 ls [.int (s33_0), va_rf ((some a15))]) (by rw [na15] <;> rfl) ?_
        replace hf := zo_b hf; obtain ⟨r16, er16, hf⟩ := hf
        refine zw_callV (n := 1) (ci := 0) (q := zc_cl[0]) (As := [.int (s33_0)]) (rest := []) S hK hw (zt_X0_remove l g h33j a15 s33_0 _ er16) zm_1002 zm_1003 zm_1004 zq_X0_remove zm_73 (by decide +kernel) ⟨Nat.le_of_ble_eq_true rfl, Nat.le_of_ble_eq_true rfl⟩ rfl rfl rfl (zi_X0_remove er16) hl.1 rfl (by simp [zv_cat, zv_ci, zv_cj]) zd_X9_driftDraft_76 ⟨(Nat.le_refl 0), (Nat.le_refl 0)⟩ (fun H locs hw => ?_)
        replace hw : zc_W g r16.1 H locs := hw
        refine lv_lstore (i := 4) (lv' := [(4, .long (r16.2)), (3, .int (s33_0)), (0, va_rf ((some q))), (1, .int (r4.2)), (2, .int (v8))]) hx hb zd_X9_driftDraft_79 hl (by decide) rfl (fun ls hl => ?_)
        refine lv_iload_n hx hb zd_X9_driftDraft_81 rfl (lv_at hl 3 rfl) ?_
        refine lv_iconst (v := 2) hx hb zd_X9_driftDraft_82 (by decide) ?_
        refine lv_icmp_ne (tgt := 99) hx hb zd_X9_driftDraft_83 (by decide) (fun c17 => ?_) (fun c17 => ?_)
        · replace hf := zo_f c17 hf
          refine lv_iload_n hx hb zd_X9_driftDraft_99 rfl (lv_at hl 3 rfl) ?_
          refine lv_iconst (v := 3) hx hb zd_X9_driftDraft_100 (by decide) ?_
          refine lv_icmp_ne (tgt := 115) hx hb zd_X9_driftDraft_101 (by decide) (fun c18 => ?_) (fun c18 => ?_)
          · replace hf := zo_f c18 hf
            have hres := Option.some.inj hf; subst hres
            exact zw_vret hx hb hr hlk hw zd_X9_driftDraft_115 (Nat.le_refl 0) (Nat.le_refl 0)
          · replace hf := zo_t c18 hf
            refine zl_aload_n hx hb zd_X9_driftDraft_104 rfl (lv_at hl 2 rfl) ?_
            replace hf := zo_b hf; obtain ⟨v19, ev19, hf⟩ := hf
            obtain ⟨u20, u20e, u20v⟩ := zo_b ev19
            obtain rfl := zv_r_e u20v
            refine zw_get S hK hw zk_9 (k := 6) (by decide) rfl zm_313 (Or.inl rfl) u20e zd_X9_driftDraft_105 ?_
            refine lv_iload_n hx hb zd_X9_driftDraft_108 rfl (lv_at hl 1 rfl) ?_
            refine lv_ldc2 (v := 122) hx hb S.2.2.2.1 (S.2.2.2.2 _ (List.mem_cons_of_mem _ zm_1006)) zd_X9_driftDraft_109 ?_
            replace hf := zo_b hf; obtain ⟨a21, na21, hf⟩ := hf
            refine W.eq (g2 := F0 m 112 ls [.long (122), .int (s33_0), va_rf ((some a21))]) (by rw [na21] <;> rfl) ?_
            replace hf := zo_b hf; obtain ⟨r22, er22, hf⟩ := hf
            refine zw_callV (n := 2) (ci := 0) (q := zc_cl[0]) (As := [.int (s33_0), .long (122)]) (rest := []) S hK hw (zt_X0_insert l g r16.1 a21 s33_0 122 _ er22) zm_1001 zm_497 zm_498 zq_X0_insert zm_73 (by decide +kernel) ⟨Nat.le_of_ble_eq_true rfl, Nat.le_of_ble_eq_true rfl⟩ rfl rfl rfl (zi_X0_insert er22) hl.1 rfl (by simp [zv_cat, zv_ci, zv_cj]) zd_X9_driftDraft_112 ⟨(Nat.le_refl 0), (Nat.le_refl 0)⟩ (fun H locs hw => ?_)
            replace hw : zc_W g r22 H locs := hw
            have hres := Option.some.inj hf; subst hres
            exact zw_vret hx hb hr hlk hw zd_X9_driftDraft_115 (Nat.le_refl 0) (Nat.le_refl 0)
        · replace hf := zo_t c17 hf
          refine zl_aload_n hx hb zd_X9_driftDraft_86 rfl (lv_at hl 2 rfl) ?_
          replace hf := zo_b hf; obtain ⟨v23, ev23, hf⟩ := hf
          obtain ⟨u24, u24e, u24v⟩ := zo_b ev23
          obtain rfl := zv_r_e u24v
          refine zw_get S hK hw zk_9 (k := 6) (by decide) rfl zm_313 (Or.inl rfl) u24e zd_X9_driftDraft_87 ?_
          refine lv_iconst (v := 0) hx hb zd_X9_driftDraft_90 (by decide) ?_
          refine lv_lload hx hb zd_X9_driftDraft_91 (lv_at hl 0 rfl) ?_
          replace hf := zo_b hf; obtain ⟨a25, na25, hf⟩ := hf
          refine W.eq (g2 := F0 m 93 ls [.long (r16.2), .int (0), va_rf ((some a25))]) (by rw [na25] <;> rfl) ?_
          replace hf := zo_b hf; obtain ⟨r26, er26, hf⟩ := hf
          refine zw_callV (n := 2) (ci := 0) (q := zc_cl[0]) (As := [.int (0), .long (r16.2)]) (rest := []) S hK hw (zt_X0_insert l g r16.1 a25 0 r16.2 _ er26) zm_1001 zm_497 zm_498 zq_X0_insert zm_73 (by decide +kernel) ⟨Nat.le_of_ble_eq_true rfl, Nat.le_of_ble_eq_true rfl⟩ rfl rfl rfl (zi_X0_insert er26) hl.1 rfl (by simp [zv_cat, zv_ci, zv_cj]) zd_X9_driftDraft_93 ⟨(Nat.le_refl 0), (Nat.le_refl 0)⟩ (fun H locs hw => ?_)
          replace hw : zc_W g r26 H locs := hw
          refine lv_goto (tgt := 115) hx hb zd_X9_driftDraft_96 (by decide) ?_
          have hres := Option.some.inj hf; subst hres
          exact zw_vret hx hb hr hlk hw zd_X9_driftDraft_115 (Nat.le_refl 0) (Nat.le_refl 0)
      · replace hf := zo_t c12 hf
        have hres := Option.some.inj hf; subst hres
        exact zw_vret hx hb hr hlk hw zd_X9_driftDraft_70 (Nat.le_refl 0) (Nat.le_refl 0)
    · replace hf := zo_t c11 hf
      refine lv_iload_n hx hb zd_X9_driftDraft_38 rfl (lv_at hl 3 rfl) ?_
      refine lv_bipush (v := 24) hx hb zd_X9_driftDraft_39 (by decide) ?_
      refine lv_icmp_ge (tgt := 65) hx hb zd_X9_driftDraft_41 (by decide) (fun c27 => ?_) (fun c27 => ?_)
      · replace hf := zo_t c27 hf
        have hres := Option.some.inj hf; subst hres
        exact zw_vret hx hb hr hlk hw zd_X9_driftDraft_65 (Nat.le_refl 0) (Nat.le_refl 0)
      · replace hf := zo_f c27 hf
        refine zl_aload_n hx hb zd_X9_driftDraft_44 rfl (lv_at hl 1 rfl) ?_
        replace hf := zo_b hf; obtain ⟨v28, ev28, hf⟩ := hf
        obtain ⟨u29, u29e, u29v⟩ := zo_b ev28
        obtain rfl := zv_r_e u29v
        refine zw_get S hK hw zk_9 (k := 6) (by decide) rfl zm_313 (Or.inl rfl) u29e zd_X9_driftDraft_45 ?_
        refine lv_iload_n hx hb zd_X9_driftDraft_48 rfl (lv_at hl 0 rfl) ?_
        refine lv_bipush (v := 97) hx hb zd_X9_driftDraft_49 (by decide) ?_
        refine zl_aload_n hx hb zd_X9_driftDraft_51 rfl (lv_at hl 1 rfl) ?_
        replace hf := zo_b hf; obtain ⟨v30, ev30, hf⟩ := hf
        obtain ⟨u31, u31e, u31v⟩ := zo_b ev30
        obtain rfl := zv_r_e u31v
        refine zw_get S hK hw zk_9 (k := 1) (by decide) rfl zm_308 (Or.inl rfl) u31e zd_X9_driftDraft_52 ?_
        refine lv_bipush (v := 26) hx hb zd_X9_driftDraft_55 (by decide) ?_
        replace hf := zo_b hf; obtain ⟨a32, na32, hf⟩ := hf
        refine W.eq (g2 := F0 m 57 ls [.int (26), va_rf ((some a32)), .int (97), .int (s33_0), va_rf (v28)]) (by rw [na32] <;> rfl) ?_
        replace hf := zo_b hf; obtain ⟨r33, er33, hf⟩ := hf
        refine zw_callV (n := 1) (ci := 6) (q := zc_cl[6]) (As := [.int (26)]) (rest := [.int (97), .int (s33_0), va_rf (v28)]) S hK hw (zt_X6_draw l g h33j a32 26 _ er33) zm_996 zm_997 zm_998 zq_X6_draw zm_69 (by decide +kernel) ⟨Nat.le_of_ble_eq_true rfl, Nat.le_of_ble_eq_true rfl⟩ rfl rfl rfl (zi_X6_draw er33) hl.1 rfl (by simp [zv_cat, zv_ci, zv_cj]) zd_X9_driftDraft_57 ⟨(Nat.le_refl 0), (Nat.le_refl 0)⟩ (fun H locs hw => ?_)
        replace hw : zc_W g r33.1 H locs := hw
        refine lv_iadd hx hb zd_X9_driftDraft_60 ?_
        refine lv_i2l (v := (((97 + r33.2) : Int32).toInt64)) hx hb zd_X9_driftDraft_61 rfl ?_
        replace hf := zo_b hf; obtain ⟨a34, na34, hf⟩ := hf
        refine W.eq (g2 := F0 m 62 ls [.long ((((97 + r33.2) : Int32).toInt64)), .int (s33_0), va_rf ((some a34))]) (by rw [na34] <;> rfl) ?_
        replace hf := zo_b hf; obtain ⟨r35, er35, hf⟩ := hf
        refine zw_callV (n := 2) (ci := 0) (q := zc_cl[0]) (As := [.int (s33_0), .long ((((97 + r33.2) : Int32).toInt64))]) (rest := []) S hK hw (zt_X0_insert l g r33.1 a34 s33_0 (((97 + r33.2) : Int32).toInt64) _ er35) zm_1001 zm_497 zm_498 zq_X0_insert zm_73 (by decide +kernel) ⟨Nat.le_of_ble_eq_true rfl, Nat.le_of_ble_eq_true rfl⟩ rfl rfl rfl (zi_X0_insert er35) hl.1 rfl (by simp [zv_cat, zv_ci, zv_cj]) zd_X9_driftDraft_62 ⟨(Nat.le_refl 0), (Nat.le_refl 0)⟩ (fun H locs hw => ?_)
        replace hw : zc_W g r35 H locs := hw
        have hres := Option.some.inj hf; subst hres
        exact zw_vret hx hb hr hlk hw zd_X9_driftDraft_65 (Nat.le_refl 0) (Nat.le_refl 0)
  refine lv_if_ne (tgt := 25) hx hb zd_X9_driftDraft_18 (by decide) (fun c10 => ?_) (fun c10 => ?_)
  · replace hf := zo_f c10 hf
    refine zl_aload_n hx hb zd_X9_driftDraft_25 rfl (lv_at hl 2 rfl) ?_
    replace hf := zo_b hf; obtain ⟨v36, ev36, hf⟩ := hf
    obtain ⟨u37, u37e, u37v⟩ := zo_b ev36
    obtain rfl := zv_r_e u37v
    refine zw_get S hK hw zk_9 (k := 1) (by decide) rfl zm_308 (Or.inl rfl) u37e zd_X9_driftDraft_26 ?_
    refine lv_iload_n hx hb zd_X9_driftDraft_29 rfl (lv_at hl 0 rfl) ?_
    replace hf := zo_b hf; obtain ⟨a38, na38, hf⟩ := hf
    refine W.eq (g2 := F0 m 30 ls [.int (v8), va_rf ((some a38))]) (by rw [na38] <;> rfl) ?_
    replace hf := zo_b hf; obtain ⟨r39, er39, hf⟩ := hf
    refine zw_callV (n := 1) (ci := 6) (q := zc_cl[6]) (As := [.int (v8)]) (rest := []) S hK hw (zt_X6_draw l g r4.1 a38 v8 _ er39) zm_996 zm_997 zm_998 zq_X6_draw zm_69 (by decide +kernel) ⟨Nat.le_of_ble_eq_true rfl, Nat.le_of_ble_eq_true rfl⟩ rfl rfl rfl (zi_X6_draw er39) hl.1 rfl (by simp [zv_cat, zv_ci, zv_cj]) zd_X9_driftDraft_30 ⟨(Nat.le_refl 0), (Nat.le_refl 0)⟩ (fun H locs hw => ?_)
    replace hw : zc_W g r39.1 H locs := hw
    exact k33h r39.1 r39.2 _ _ _ hf hw (lv_sub hl [2, 1, 0] rfl)
  · replace hf := zo_t c10 hf
    refine lv_iconst (v := 0) hx hb zd_X9_driftDraft_21 (by decide) ?_
    refine lv_goto (tgt := 33) hx hb zd_X9_driftDraft_22 (by decide) ?_
    exact k33h r4.1 0 _ _ _ hf hw (lv_sub hl [2, 1, 0] rfl)
def zf_X9_drift_L75 (q : Nat) (y1 : Int32) : Nat → zc_H → Option Nat → Int32 → Option (zc_H × Option Nat)
  | 0, _, _, _ => none
  | n + 1, h, y3, y4 =>
    if y1 ≤ y4 then
      some (h, y3)
    else
    (zf_gr h q 9 6).bind fun v22 =>
    v22.bind fun a24 =>
    (zf_X0_startFrom h a24 y3).bind fun r25 =>
    (zf_X9_driftDraft r25 q).bind fun r26 =>
    (zf_X9_addRevision r26 q y3).bind fun r27 =>
    zf_X9_drift_L75 q y1 n r27.1 r27.2 (y4 + 1)
def zf_X9_drift (h : zc_H) (q : Nat) (x1 : Int32) : Option (zc_H × Int32) :=
  if ¬ zf_is h q 9 = true then none else
  (zf_gr h q 9 1).bind fun v1 =>
  v1.bind fun a3 =>
  (zf_gr h a3 6 0).bind fun v4 =>
  v4.bind fun a6 =>
  (zf_Jx4a65c_size_8abf5 h a6).bind fun r7 =>
  if r7 = 0 then
    (zf_X9_refuse h q (-5)).bind fun r35 =>
    some (r35.1, r35.2)
  else
  let k33 := fun (_ : Unit) =>
    (zf_X9_refuse h q (-6)).bind fun r10 =>
    some (r10.1, r10.2)
  if x1 < 1 then
    k33 ()
  else
  if x1 ≤ 15 then
    if (r7 + x1) ≤ 16 then
      (zf_gr h q 9 1).bind fun v13 =>
      v13.bind fun a15 =>
      (zf_gr h a15 6 0).bind fun v16 =>
      v16.bind fun a18 =>
      (zf_Jx4a65c_get_915e3 h a18 (r7 - 1)).bind fun r19 =>
      if ¬ zf_cc h r19 4 = true then none else
      (zf_X9_drift_L75 q x1 16 h r19 0).bind fun w28 =>
      w28.2.bind fun a31 =>
      (zf_gi w28.1 a31 4 0).bind fun v32 =>
      some (w28.1, v32)
    else
    (zf_X9_refuse h q (-7)).bind fun r34 =>
    some (r34.1, r34.2)
  else
  k33 ()
abbrev zr_X9_drift : Room := { frames := 9, cells := 64, slots := 2000, locals := 250 }
theorem zi_X9_drift {h : zc_H} {q : Nat} {x1 : Int32} {res : zc_H × Int32} (hf : zf_X9_drift h q x1 = some res) : zf_is h q 9 = true := Decidable.not_not.mp (zo_n hf).1
set_option maxHeartbeats 4000000 in
set_option maxRecDepth 20000 in
theorem zt_X9_drift (l : Launch) (g : zc_G) (h : zc_H) (q : Nat) (x1 : Int32) (res : zc_H × Int32) (hf : zf_X9_drift h q x1 = some res) : zc_M l g yX9_drift cX9_drift 5 (some .int) zr_X9_drift h [va_rf ((some q)), .int (x1)] res.1 (some (.int (res.2))) := by
  refine zc_M.of (by decide) (by simp [lg_sl, zv_cat, zv_ci, zv_cj]) ?_
  intro p e s m below meth c ls S hK hw hr hlk hnm hl
  replace S : CallFix p m c cX9_drift 5 s [va_rf ((some q)), .int (x1)].toArray (zc_ws yX9_drift cX9_drift 5 (some .int)) RX9 := S
  have hx := S.1
  have hb := S.2.1
  replace hl : lv_has ls 5 [(0, va_rf ((some q))), (1, .int (x1))] := by simpa [lv_args, zv_cat, zv_ci, zv_cj] using hl
  generalize s.heap = H at hw ⊢
  obtain ⟨locs, hlocs⟩ : ∃ L : List Loc, L = [] := ⟨_, rfl⟩
  rw [← hlocs] at hw ⊢
  have L75 : ∀ (y1 : Int32) (n : Nat) (h : zc_H) (y3 : Option Nat) (y4 : Int32) (w : zc_H × Option Nat) (H : Heap) (locs : List Loc) (ls : Array Slot) (cl sl : Nat), cl + n * 4 ≤ 64 → sl + n * 125 ≤ 2000 → zf_X9_drift_L75 q y1 n h y3 y4 = some w → zc_W g h H locs → lv_has ls 5 [(0, va_rf ((some q))), (1, .int (y1)), (3, va_rf (y3)), (4, .int (y4))] → (∀ (H : Heap) (locs : List Loc) (ls : Array Slot) (cl1 sl1 : Nat), cl1 ≤ cl + n * 4 → sl1 ≤ sl + n * 125 → zc_W g w.1 H locs → lv_has ls 5 [(3, va_rf (w.2))] → W p l e zr_X9_drift s m [va_rf ((some q)), .int (x1)].toArray below meth c H locs cl1 sl1 (zc_Q g below zr_X9_drift (some (.int (res.2))) res.1 [va_rf ((some q)), .int (x1)] s) (F0 m 105 ls [])) → W p l e zr_X9_drift s m [va_rf ((some q)), .int (x1)].toArray below meth c H locs cl sl (zc_Q g below zr_X9_drift (some (.int (res.2))) res.1 [va_rf ((some q)), .int (x1)] s) (F0 m 75 ls []) := by
    intro y1 n
    induction n with
    | zero =>
      intro h y3 y4 w H locs ls cl sl hcl hsl hf
      cases hf
    | succ n ih =>
      intro h y3 y4 w H locs ls cl sl hcl hsl hf hw hl  kk
      unfold zf_X9_drift_L75 at hf
      refine lv_iload hx hb zd_X9_drift_75 (lv_at hl 3 rfl) ?_
      refine lv_iload_n hx hb zd_X9_drift_77 rfl (lv_at hl 1 rfl) ?_
      refine lv_icmp_ge (tgt := 105) hx hb zd_X9_drift_78 (by decide) (fun c21 => ?_) (fun c21 => ?_)
      · replace hf := zo_t c21 hf
        have hres := Option.some.inj hf; subst hres
        exact kk _ _ _ _ _ (by omega) (by omega) hw (lv_sub hl [2] rfl)
      · replace hf := zo_f c21 hf
        refine zl_aload_n hx hb zd_X9_drift_81 rfl (lv_at hl 0 rfl) ?_
        replace hf := zo_b hf; obtain ⟨v22, ev22, hf⟩ := hf
        obtain ⟨u23, u23e, u23v⟩ := zo_b ev22
        obtain rfl := zv_r_e u23v
        refine zw_get S hK hw zk_9 (k := 6) (by decide) rfl zm_313 (Or.inl rfl) u23e zd_X9_drift_82 ?_
        refine zl_aload_n hx hb zd_X9_drift_85 rfl (lv_at hl 2 rfl) ?_
        replace hf := zo_b hf; obtain ⟨a24, na24, hf⟩ := hf
        refine W.eq (g2 := F0 m 86 ls [va_rf (y3), va_rf ((some a24))]) (by rw [na24] <;> rfl) ?_
        replace hf := zo_b hf; obtain ⟨r25, er25, hf⟩ := hf
        refine zw_callV (n := 1) (ci := 0) (q := zc_cl[0]) (As := [va_rf (y3)]) (rest := []) S hK hw (zt_X0_startFrom l g h a24 y3 _ er25) zm_976 zm_977 zm_978 zq_X0_startFrom zm_73 (by decide +kernel) ⟨Nat.le_of_ble_eq_true rfl, Nat.le_of_ble_eq_true rfl⟩ rfl rfl rfl (zi_X0_startFrom er25) hl.1 rfl (by simp [zv_cat, zv_ci, zv_cj]) zd_X9_drift_86 ⟨(by show cl + (0 : Nat) ≤ (64 : Nat); omega), (by show sl + (0 : Nat) ≤ (2000 : Nat); omega)⟩ (fun H locs hw => ?_)
        replace hw : zc_W g r25 H locs := hw
        refine W.widen (k := (cl + 0)) (n := (sl + 0)) (Nat.le_refl _) (Nat.le_refl _) ?_
        refine zl_aload_n hx hb zd_X9_drift_89 rfl (lv_at hl 0 rfl) ?_
        replace hf := zo_b hf; obtain ⟨r26, er26, hf⟩ := hf
        refine zw_callV (n := 0) (ci := 9) (q := zc_cl[9]) (As := []) (rest := []) S hK hw (zt_X9_driftDraft l g r25 q _ er26) zm_992 zm_994 zm_20 zq_X9_driftDraft zm_68 (by decide +kernel) ⟨Nat.le_of_ble_eq_true rfl, Nat.le_of_ble_eq_true rfl⟩ rfl rfl rfl (zi_X9_driftDraft er26) hl.1 rfl (by simp [zv_cat, zv_ci, zv_cj]) zd_X9_drift_90 ⟨(by show (cl + 0) + (0 : Nat) ≤ (64 : Nat); omega), (by show (sl + 0) + (0 : Nat) ≤ (2000 : Nat); omega)⟩ (fun H locs hw => ?_)
        replace hw : zc_W g r26 H locs := hw
        refine W.widen (k := ((cl + 0) + 0)) (n := ((sl + 0) + 0)) (Nat.le_refl _) (Nat.le_refl _) ?_
        refine zl_aload_n hx hb zd_X9_drift_93 rfl (lv_at hl 0 rfl) ?_
        refine zl_aload_n hx hb zd_X9_drift_94 rfl (lv_at hl 2 rfl) ?_
        replace hf := zo_b hf; obtain ⟨r27, er27, hf⟩ := hf
        refine zw_callV (n := 1) (ci := 9) (q := zc_cl[9]) (As := [va_rf (y3)]) (rest := []) S hK hw (zt_X9_addRevision l g r26 q y3 _ er27) zm_501 zm_503 zm_3 zq_X9_addRevision zm_68 (by decide +kernel) ⟨Nat.le_of_ble_eq_true rfl, Nat.le_of_ble_eq_true rfl⟩ rfl rfl rfl (zi_X9_addRevision er27) hl.1 rfl (by simp [zv_cat, zv_ci, zv_cj]) zd_X9_drift_95 ⟨(by show ((cl + 0) + 0) + (4 : Nat) ≤ (64 : Nat); omega), (by show ((sl + 0) + 0) + (125 : Nat) ≤ (2000 : Nat); omega)⟩ (fun H locs hw => ?_)
        replace hw : zc_W g r27.1 H locs := hw
        refine W.widen (k := (((cl + 0) + 0) + 4)) (n := (((sl + 0) + 0) + 125)) (Nat.le_refl _) (Nat.le_refl _) ?_
        refine zl_astore_n (i := 3) (lv' := [(3, va_rf (r27.2)), (0, va_rf ((some q))), (1, .int (y1)), (4, .int (y4))]) hx hb zd_X9_drift_98 rfl hl (by decide) rfl (fun ls hl => ?_)
        refine lv_iinc (i := 4) (v := (y4 + 1)) (lv' := [(4, .int ((y4 + 1))), (3, va_rf (r27.2)), (0, va_rf ((some q))), (1, .int (y1))]) hx hb zd_X9_drift_99 hl (k := 3) rfl (congrArg (_ + ·) (by decide)) (by decide) (by simp [List.filter, zv_cat, zv_ci, zv_cj]) (fun ls hl => ?_)
        refine lv_goto (tgt := 75) hx hb zd_X9_drift_102 (by decide) ?_
        exact ih r27.1 r27.2 (y4 + 1) _ _ _ _ _ _ (by omega) (by omega) hf hw (lv_sub hl [2, 3, 1, 0] rfl) (fun H locs ls cl1 sl1 h1 h2 => kk H locs ls cl1 sl1 (by omega) (by omega))
  unfold zf_X9_drift at hf
  obtain ⟨-, hf⟩ := zo_n hf
  refine zl_aload_n hx hb zd_X9_drift_0 rfl (lv_at hl 0 rfl) ?_
  replace hf := zo_b hf; obtain ⟨v1, ev1, hf⟩ := hf
  obtain ⟨u2, u2e, u2v⟩ := zo_b ev1
  obtain rfl := zv_r_e u2v
  refine zw_get S hK hw zk_9 (k := 1) (by decide) rfl zm_308 (Or.inl rfl) u2e zd_X9_drift_1 ?_
  replace hf := zo_b hf; obtain ⟨a3, na3, hf⟩ := hf
  refine W.eq (g2 := F0 m 4 ls [va_rf ((some a3))]) (by rw [na3] <;> rfl) ?_
  replace hf := zo_b hf; obtain ⟨v4, ev4, hf⟩ := hf
  obtain ⟨u5, u5e, u5v⟩ := zo_b ev4
  obtain rfl := zv_r_e u5v
  refine zw_get S hK hw zk_6 (k := 0) (by decide) rfl zm_132 (Or.inl rfl) u5e zd_X9_drift_4 ?_
  replace hf := zo_b hf; obtain ⟨a6, na6, hf⟩ := hf
  refine W.eq (g2 := F0 m 7 ls [va_rf ((some a6))]) (by rw [na6] <;> rfl) ?_
  replace hf := zo_b hf; obtain ⟨r7, er7, hf⟩ := hf
  refine zw_callV (n := 0) (ci := 11) (q := zc_cl[11]) (As := []) (rest := []) S hK hw (zt_Jx4a65c_size_8abf5 l g h a6 _ er7) zm_500 zm_425 zm_426 zq_Jx4a65c_size_8abf5 zm_72 (by decide +kernel) ⟨Nat.le_of_ble_eq_true rfl, Nat.le_of_ble_eq_true rfl⟩ rfl rfl rfl (zi_Jx4a65c_size_8abf5 er7) hl.1 rfl (by simp [zv_cat, zv_ci, zv_cj]) zd_X9_drift_7 ⟨(by show 0 + (0 : Nat) ≤ (64 : Nat); omega), (by show 0 + (0 : Nat) ≤ (2000 : Nat); omega)⟩ (fun H locs hw => ?_)
  replace hw : zc_W g h H locs := hw
  refine W.widen (k := (0 + 0)) (n := (0 + 0)) (Nat.le_refl _) (Nat.le_refl _) ?_
  refine lv_istore_n (i := 2) (lv' := [(2, .int (r7)), (0, va_rf ((some q))), (1, .int (x1))]) hx hb zd_X9_drift_10 rfl hl (by decide) rfl (fun ls hl => ?_)
  refine lv_iload_n hx hb zd_X9_drift_11 rfl (lv_at hl 0 rfl) ?_
  refine lv_if_ne (tgt := 22) hx hb zd_X9_drift_12 (by decide) (fun c8 => ?_) (fun c8 => ?_)
  · replace hf := zo_f c8 hf
    refine lv_iload_n hx hb zd_X9_drift_22 rfl (lv_at hl 2 rfl) ?_
    refine lv_iconst (v := 1) hx hb zd_X9_drift_23 (by decide) ?_
    have k33h : ∀ (_ : Unit) (H : Heap) (locs : List Loc) (ls : Array Slot), (
        (zf_X9_refuse h q (-6)).bind fun r10 =>
        some (r10.1, r10.2)
        ) = some res → zc_W g h H locs → lv_has ls 5 [(0, va_rf ((some q)))] → W p l e zr_X9_drift s m [va_rf ((some q)), .int (x1)].toArray below meth c H locs (0 + 0) (0 + 0) (zc_Q g below zr_X9_drift (some (.int (res.2))) res.1 [va_rf ((some q)), .int (x1)] s) (F0 m 33 ls []) := by
      intro _ H locs ls hf hw hl
      refine zl_aload_n hx hb zd_X9_drift_33 rfl (lv_at hl 0 rfl) ?_
      refine lv_bipush (v := (-6)) hx hb zd_X9_drift_34 (by decide) ?_
      replace hf := zo_b hf; obtain ⟨r10, er10, hf⟩ := hf
      refine zw_callV (n := 1) (ci := 9) (q := zc_cl[9]) (As := [.int ((-6))]) (rest := []) S hK hw (zt_X9_refuse l g h q (-6) _ er10) zm_349 zm_351 zm_1 zq_X9_refuse zm_68 (by decide +kernel) ⟨Nat.le_of_ble_eq_true rfl, Nat.le_of_ble_eq_true rfl⟩ rfl rfl rfl (zi_X9_refuse er10) hl.1 rfl (by simp [zv_cat, zv_ci, zv_cj]) zd_X9_drift_36 ⟨(by show (0 + 0) + (0 : Nat) ≤ (64 : Nat); omega), (by show (0 + 0) + (0 : Nat) ≤ (2000 : Nat); omega)⟩ (fun H locs hw => ?_)
      replace hw : zc_W g r10.1 H locs := hw
      refine W.widen (k := ((0 + 0) + 0)) (n := ((0 + 0) + 0)) (Nat.le_refl _) (Nat.le_refl _) ?_
      have hres := Option.some.inj hf; subst hres
      exact zw_iret (v := r10.2) (ty := .int) hx hb hr hlk rfl hw zd_X9_drift_39 (by show _ ≤ (64 : Nat); omega) (by show _ ≤ (2000 : Nat); omega)
    refine lv_icmp_lt (tgt := 33) hx hb zd_X9_drift_24 (by decide) (fun c9 => ?_) (fun c9 => ?_)
    · replace hf := zo_t c9 hf
      exact k33h () _ _ _ hf hw (lv_sub hl [1] rfl)
    · replace hf := zo_f c9 hf
      refine lv_iload_n hx hb zd_X9_drift_27 rfl (lv_at hl 2 rfl) ?_
      refine lv_bipush (v := 15) hx hb zd_X9_drift_28 (by decide) ?_
      refine lv_icmp_le (tgt := 40) hx hb zd_X9_drift_30 (by decide) (fun c11 => ?_) (fun c11 => ?_)
      · replace hf := zo_t c11 hf
        refine lv_iload_n hx hb zd_X9_drift_40 rfl (lv_at hl 0 rfl) ?_
        refine lv_iload_n hx hb zd_X9_drift_41 rfl (lv_at hl 2 rfl) ?_
        refine lv_iadd hx hb zd_X9_drift_42 ?_
        refine lv_bipush (v := 16) hx hb zd_X9_drift_43 (by decide) ?_
        refine lv_icmp_le (tgt := 55) hx hb zd_X9_drift_45 (by decide) (fun c12 => ?_) (fun c12 => ?_)
        · replace hf := zo_t c12 hf
          refine zl_aload_n hx hb zd_X9_drift_55 rfl (lv_at hl 1 rfl) ?_
          replace hf := zo_b hf; obtain ⟨v13, ev13, hf⟩ := hf
          obtain ⟨u14, u14e, u14v⟩ := zo_b ev13
          obtain rfl := zv_r_e u14v
          refine zw_get S hK hw zk_9 (k := 1) (by decide) rfl zm_308 (Or.inl rfl) u14e zd_X9_drift_56 ?_
          replace hf := zo_b hf; obtain ⟨a15, na15, hf⟩ := hf
          refine W.eq (g2 := F0 m 59 ls [va_rf ((some a15))]) (by rw [na15] <;> rfl) ?_
          replace hf := zo_b hf; obtain ⟨v16, ev16, hf⟩ := hf
          obtain ⟨u17, u17e, u17v⟩ := zo_b ev16
          obtain rfl := zv_r_e u17v
          refine zw_get S hK hw zk_6 (k := 0) (by decide) rfl zm_132 (Or.inl rfl) u17e zd_X9_drift_59 ?_
          refine lv_iload_n hx hb zd_X9_drift_62 rfl (lv_at hl 0 rfl) ?_
          refine lv_iconst (v := 1) hx hb zd_X9_drift_63 (by decide) ?_
          refine lv_isub hx hb zd_X9_drift_64 ?_
          replace hf := zo_b hf; obtain ⟨a18, na18, hf⟩ := hf
          refine W.eq (g2 := F0 m 65 ls [.int ((r7 - 1)), va_rf ((some a18))]) (by rw [na18] <;> rfl) ?_
          replace hf := zo_b hf; obtain ⟨r19, er19, hf⟩ := hf
          refine zw_callV (n := 1) (ci := 11) (q := zc_cl[11]) (As := [.int ((r7 - 1))]) (rest := []) S hK hw (zt_Jx4a65c_get_915e3 l g h a18 (r7 - 1) _ er19) zm_699 zm_429 zm_430 zq_Jx4a65c_get_915e3 zm_72 (by decide +kernel) ⟨Nat.le_of_ble_eq_true rfl, Nat.le_of_ble_eq_true rfl⟩ rfl rfl rfl (zi_Jx4a65c_get_915e3 er19) hl.1 rfl (by simp [zv_cat, zv_ci, zv_cj]) zd_X9_drift_65 ⟨(by show (0 + 0) + (0 : Nat) ≤ (64 : Nat); omega), (by show (0 + 0) + (0 : Nat) ≤ (2000 : Nat); omega)⟩ (fun H locs hw => ?_)
          replace hw : zc_W g h H locs := hw
          refine W.widen (k := ((0 + 0) + 0)) (n := ((0 + 0) + 0)) (Nat.le_refl _) (Nat.le_refl _) ?_
          replace hf := zo_n hf; obtain ⟨z20, hf⟩ := hf
          refine zw_cast (q := zc_cl[4]) S hK hw zm_505 rfl rfl (Decidable.not_not.mp z20) zd_X9_drift_68 ?_
          refine zl_astore_n (i := 3) (lv' := [(3, va_rf (r19)), (2, .int (r7)), (0, va_rf ((some q))), (1, .int (x1))]) hx hb zd_X9_drift_71 rfl hl (by decide) rfl (fun ls hl => ?_)
          refine lv_iconst (v := 0) hx hb zd_X9_drift_72 (by decide) ?_
          refine lv_istore (i := 4) (lv' := [(4, .int (0)), (3, va_rf (r19)), (2, .int (r7)), (0, va_rf ((some q))), (1, .int (x1))]) hx hb zd_X9_drift_73 hl (by decide) (by simp [List.filter, zv_cat, zv_ci, zv_cj]) (fun ls hl => ?_)
          replace hf := zo_b hf; obtain ⟨w28, w28e, hf⟩ := hf
          refine L75 x1 16 h r19 0 _ _ _ _ _ _ (by omega) (by omega) w28e hw (lv_sub hl [3, 4, 1, 0] rfl) (fun H locs ls cl29 sl30 hcl29 hsl30 hw hl => ?_)
          refine zl_aload_n hx hb zd_X9_drift_105 rfl (lv_at hl 0 rfl) ?_
          replace hf := zo_b hf; obtain ⟨a31, na31, hf⟩ := hf
          refine W.eq (g2 := F0 m 106 ls [va_rf ((some a31))]) (by rw [na31] <;> rfl) ?_
          replace hf := zo_b hf; obtain ⟨v32, ev32, hf⟩ := hf
          obtain ⟨u33, u33e, u33v⟩ := zo_b ev32
          obtain rfl := zv_i_e u33v
          refine zw_get S hK hw zk_4 (k := 0) (by decide) rfl zm_531 (Or.inl rfl) u33e zd_X9_drift_106 ?_
          have hres := Option.some.inj hf; subst hres
          exact zw_iret (v := v32) (ty := .int) hx hb hr hlk rfl hw zd_X9_drift_109 (by show _ ≤ (64 : Nat); omega) (by show _ ≤ (2000 : Nat); omega)
        · replace hf := zo_f c12 hf
          refine zl_aload_n hx hb zd_X9_drift_48 rfl (lv_at hl 1 rfl) ?_
          refine lv_bipush (v := (-7)) hx hb zd_X9_drift_49 (by decide) ?_
          replace hf := zo_b hf; obtain ⟨r34, er34, hf⟩ := hf
          refine zw_callV (n := 1) (ci := 9) (q := zc_cl[9]) (As := [.int ((-7))]) (rest := []) S hK hw (zt_X9_refuse l g h q (-7) _ er34) zm_349 zm_351 zm_1 zq_X9_refuse zm_68 (by decide +kernel) ⟨Nat.le_of_ble_eq_true rfl, Nat.le_of_ble_eq_true rfl⟩ rfl rfl rfl (zi_X9_refuse er34) hl.1 rfl (by simp [zv_cat, zv_ci, zv_cj]) zd_X9_drift_51 ⟨(by show (0 + 0) + (0 : Nat) ≤ (64 : Nat); omega), (by show (0 + 0) + (0 : Nat) ≤ (2000 : Nat); omega)⟩ (fun H locs hw => ?_)
          replace hw : zc_W g r34.1 H locs := hw
          refine W.widen (k := ((0 + 0) + 0)) (n := ((0 + 0) + 0)) (Nat.le_refl _) (Nat.le_refl _) ?_
          have hres := Option.some.inj hf; subst hres
          exact zw_iret (v := r34.2) (ty := .int) hx hb hr hlk rfl hw zd_X9_drift_54 (by show _ ≤ (64 : Nat); omega) (by show _ ≤ (2000 : Nat); omega)
      · replace hf := zo_f c11 hf
        exact k33h () _ _ _ hf hw (lv_sub hl [1] rfl)
  · replace hf := zo_t c8 hf
    refine zl_aload_n hx hb zd_X9_drift_15 rfl (lv_at hl 1 rfl) ?_
    refine lv_bipush (v := (-5)) hx hb zd_X9_drift_16 (by decide) ?_
    replace hf := zo_b hf; obtain ⟨r35, er35, hf⟩ := hf
    refine zw_callV (n := 1) (ci := 9) (q := zc_cl[9]) (As := [.int ((-5))]) (rest := []) S hK hw (zt_X9_refuse l g h q (-5) _ er35) zm_349 zm_351 zm_1 zq_X9_refuse zm_68 (by decide +kernel) ⟨Nat.le_of_ble_eq_true rfl, Nat.le_of_ble_eq_true rfl⟩ rfl rfl rfl (zi_X9_refuse er35) hl.1 rfl (by simp [zv_cat, zv_ci, zv_cj]) zd_X9_drift_18 ⟨(by show (0 + 0) + (0 : Nat) ≤ (64 : Nat); omega), (by show (0 + 0) + (0 : Nat) ≤ (2000 : Nat); omega)⟩ (fun H locs hw => ?_)
    replace hw : zc_W g r35.1 H locs := hw
    refine W.widen (k := ((0 + 0) + 0)) (n := ((0 + 0) + 0)) (Nat.le_refl _) (Nat.le_refl _) ?_
    have hres := Option.some.inj hf; subst hres
    exact zw_iret (v := r35.2) (ty := .int) hx hb hr hlk rfl hw zd_X9_drift_21 (by show _ ≤ (64 : Nat); omega) (by show _ ≤ (2000 : Nat); omega)
def zf_X9_seed (h : zc_H) (q : Nat) (x1 : Int32) : Option (zc_H × Int32) :=
  if ¬ zf_is h q 9 = true then none else
  (zf_gr h q 9 1).bind fun v1 =>
  v1.bind fun a3 =>
  (zf_gi h a3 6 6).bind fun v4 =>
  (zf_gr h q 9 1).bind fun v6 =>
  v6.bind fun a8 =>
  (zf_p h a8 6 6 (.int (x1))).bind fun h9 =>
  some (h9, v4)
abbrev zr_X9_seed : Room := { frames := 0, cells := 0, slots := 0, locals := 0 }
theorem zi_X9_seed {h : zc_H} {q : Nat} {x1 : Int32} {res : zc_H × Int32} (hf : zf_X9_seed h q x1 = some res) : zf_is h q 9 = true := Decidable.not_not.mp (zo_n hf).1
set_option maxHeartbeats 4000000 in
set_option maxRecDepth 20000 in
theorem zt_X9_seed (l : Launch) (g : zc_G) (h : zc_H) (q : Nat) (x1 : Int32) (res : zc_H × Int32) (hf : zf_X9_seed h q x1 = some res) : zc_M l g yX9_seed cX9_seed 3 (some .int) zr_X9_seed h [va_rf ((some q)), .int (x1)] res.1 (some (.int (res.2))) := by
  refine zc_M.of (by decide) (by simp [lg_sl, zv_cat, zv_ci, zv_cj]) ?_
  intro p e s m below meth c ls S hK hw hr hlk hnm hl
  replace S : CallFix p m c cX9_seed 3 s [va_rf ((some q)), .int (x1)].toArray (zc_ws yX9_seed cX9_seed 3 (some .int)) RX9 := S
  have hx := S.1
  have hb := S.2.1
  replace hl : lv_has ls 3 [(0, va_rf ((some q))), (1, .int (x1))] := by simpa [lv_args, zv_cat, zv_ci, zv_cj] using hl
  generalize s.heap = H at hw ⊢
  obtain ⟨locs, hlocs⟩ : ∃ L : List Loc, L = [] := ⟨_, rfl⟩
  rw [← hlocs] at hw ⊢
  unfold zf_X9_seed at hf
  obtain ⟨-, hf⟩ := zo_n hf
  refine zl_aload_n hx hb zd_X9_seed_0 rfl (lv_at hl 0 rfl) ?_
  replace hf := zo_b hf; obtain ⟨v1, ev1, hf⟩ := hf
  obtain ⟨u2, u2e, u2v⟩ := zo_b ev1
  obtain rfl := zv_r_e u2v
  refine zw_get S hK hw zk_9 (k := 1) (by decide) rfl zm_308 (Or.inl rfl) u2e zd_X9_seed_1 ?_
  replace hf := zo_b hf; obtain ⟨a3, na3, hf⟩ := hf
  refine W.eq (g2 := F0 m 4 ls [va_rf ((some a3))]) (by rw [na3] <;> rfl) ?_
  replace hf := zo_b hf; obtain ⟨v4, ev4, hf⟩ := hf
  obtain ⟨u5, u5e, u5v⟩ := zo_b ev4
  obtain rfl := zv_i_e u5v
  refine zw_get S hK hw zk_6 (k := 6) (by decide) rfl zm_145 (Or.inl rfl) u5e zd_X9_seed_4 ?_
  refine lv_istore_n (i := 2) (lv' := [(2, .int (v4)), (0, va_rf ((some q))), (1, .int (x1))]) hx hb zd_X9_seed_7 rfl hl (by decide) rfl (fun ls hl => ?_)
  refine zl_aload_n hx hb zd_X9_seed_8 rfl (lv_at hl 1 rfl) ?_
  replace hf := zo_b hf; obtain ⟨v6, ev6, hf⟩ := hf
  obtain ⟨u7, u7e, u7v⟩ := zo_b ev6
  obtain rfl := zv_r_e u7v
  refine zw_get S hK hw zk_9 (k := 1) (by decide) rfl zm_308 (Or.inl rfl) u7e zd_X9_seed_9 ?_
  refine lv_iload_n hx hb zd_X9_seed_12 rfl (lv_at hl 2 rfl) ?_
  replace hf := zo_b hf; obtain ⟨a8, na8, hf⟩ := hf
  refine W.eq (g2 := F0 m 13 ls [.int (x1), va_rf ((some a8))]) (by rw [na8] <;> rfl) ?_
  replace hf := zo_b hf; obtain ⟨h9, eh9, hf⟩ := hf
  refine zw_put S hK hw zk_6 (k := 6) (by decide) rfl zm_145 (Or.inl rfl) eh9 (ty := .int) (by decide +kernel) rfl rfl zd_X9_seed_13 (fun H locs hw => ?_)
  refine lv_iload_n hx hb zd_X9_seed_16 rfl (lv_at hl 0 rfl) ?_
  have hres := Option.some.inj hf; subst hres
  exact zw_iret (v := v4) (ty := .int) hx hb hr hlk rfl hw zd_X9_seed_17 (Nat.le_refl 0) (Nat.le_refl 0)
def zf_X9_act (h : zc_H) (q : Nat) (x1 : Int32) (x2 : Int32) (x3 : Int32) : Option (zc_H × Int32) :=
  if ¬ zf_is h q 9 = true then none else
  (zf_gr h q 9 10).bind fun v1 =>
  v1.bind fun a3 =>
  (zf_X2_forget h a3).bind fun r4 =>
  (zf_gr r4 q 9 1).bind fun v5 =>
  v5.bind fun a7 =>
  (zf_X6_remarkAt r4 a7 x1).bind fun r8 =>
  if r8 = none then
    some (r4, 0)
  else
  if x2 < 0 then
    some (r4, 0)
  else
  if x2 < 3 then
    (zf_gr r4 q 9 10).bind fun v12 =>
    v12.bind fun a14 =>
    (zf_X2_perform r4 a14 r8 x2 x3).bind fun r15 =>
    some (r15.1, r15.2)
  else
  some (r4, 0)
abbrev zr_X9_act : Room := { frames := 44, cells := 0, slots := 0, locals := 1072 }
theorem zi_X9_act {h : zc_H} {q : Nat} {x1 : Int32} {x2 : Int32} {x3 : Int32} {res : zc_H × Int32} (hf : zf_X9_act h q x1 x2 x3 = some res) : zf_is h q 9 = true := Decidable.not_not.mp (zo_n hf).1
set_option maxHeartbeats 4000000 in
set_option maxRecDepth 20000 in
theorem zt_X9_act (l : Launch) (g : zc_G) (h : zc_H) (q : Nat) (x1 : Int32) (x2 : Int32) (x3 : Int32) (res : zc_H × Int32) (hf : zf_X9_act h q x1 x2 x3 = some res) : zc_M l g yX9_act cX9_act 5 (some .int) zr_X9_act h [va_rf ((some q)), .int (x1), .int (x2), .int (x3)] res.1 (some (.int (res.2))) := by
  refine zc_M.of (by decide) (by simp [lg_sl, zv_cat, zv_ci, zv_cj]) ?_
  intro p e s m below meth c ls S hK hw hr hlk hnm hl
  replace S : CallFix p m c cX9_act 5 s [va_rf ((some q)), .int (x1), .int (x2), .int (x3)].toArray (zc_ws yX9_act cX9_act 5 (some .int)) RX9 := S
  have hx := S.1
  have hb := S.2.1
  replace hl : lv_has ls 5 [(0, va_rf ((some q))), (1, .int (x1)), (2, .int (x2)), (3, .int (x3))] := by simpa [lv_args, zv_cat, zv_ci, zv_cj] using hl
  generalize s.heap = H at hw ⊢
  obtain ⟨locs, hlocs⟩ : ∃ L : List Loc, L = [] := ⟨_, rfl⟩
  rw [← hlocs] at hw ⊢
  unfold zf_X9_act at hf
  obtain ⟨-, hf⟩ := zo_n hf
  refine zl_aload_n hx hb zd_X9_act_0 rfl (lv_at hl 0 rfl) ?_
  replace hf := zo_b hf; obtain ⟨v1, ev1, hf⟩ := hf
  obtain ⟨u2, u2e, u2v⟩ := zo_b ev1
  obtain rfl := zv_r_e u2v
  refine zw_get S hK hw zk_9 (k := 10) (by decide) rfl zm_317 (Or.inl rfl) u2e zd_X9_act_1 ?_
  replace hf := zo_b hf; obtain ⟨a3, na3, hf⟩ := hf
  refine W.eq (g2 := F0 m 4 ls [va_rf ((some a3))]) (by rw [na3] <;> rfl) ?_
  replace hf := zo_b hf; obtain ⟨r4, er4, hf⟩ := hf
  refine zw_callV (n := 0) (ci := 2) (q := zc_cl[2]) (As := []) (rest := []) S hK hw (zt_X2_forget l g h a3 _ er4) zm_1015 zm_1016 zm_1017 zq_X2_forget zm_77 (by decide +kernel) ⟨Nat.le_of_ble_eq_true rfl, Nat.le_of_ble_eq_true rfl⟩ rfl rfl rfl (zi_X2_forget er4) hl.1 rfl (by simp [zv_cat, zv_ci, zv_cj]) zd_X9_act_4 ⟨(Nat.le_refl 0), (Nat.le_refl 0)⟩ (fun H locs hw => ?_)
  replace hw : zc_W g r4 H locs := hw
  refine zl_aload_n hx hb zd_X9_act_7 rfl (lv_at hl 0 rfl) ?_
  replace hf := zo_b hf; obtain ⟨v5, ev5, hf⟩ := hf
  obtain ⟨u6, u6e, u6v⟩ := zo_b ev5
  obtain rfl := zv_r_e u6v
  refine zw_get S hK hw zk_9 (k := 1) (by decide) rfl zm_308 (Or.inl rfl) u6e zd_X9_act_8 ?_
  refine lv_iload_n hx hb zd_X9_act_11 rfl (lv_at hl 1 rfl) ?_
  replace hf := zo_b hf; obtain ⟨a7, na7, hf⟩ := hf
  refine W.eq (g2 := F0 m 12 ls [.int (x1), va_rf ((some a7))]) (by rw [na7] <;> rfl) ?_
  replace hf := zo_b hf; obtain ⟨r8, er8, hf⟩ := hf
  refine zw_callV (n := 1) (ci := 6) (q := zc_cl[6]) (As := [.int (x1)]) (rest := []) S hK hw (zt_X6_remarkAt l g r4 a7 x1 _ er8) zm_420 zm_421 zm_422 zq_X6_remarkAt zm_69 (by decide +kernel) ⟨Nat.le_of_ble_eq_true rfl, Nat.le_of_ble_eq_true rfl⟩ rfl rfl rfl (zi_X6_remarkAt er8) hl.1 rfl (by simp [zv_cat, zv_ci, zv_cj]) zd_X9_act_12 ⟨(Nat.le_refl 0), (Nat.le_refl 0)⟩ (fun H locs hw => ?_)
  replace hw : zc_W g r4 H locs := hw
  refine zl_astore (i := 4) (lv' := [(4, va_rf (r8)), (0, va_rf ((some q))), (1, .int (x1)), (2, .int (x2)), (3, .int (x3))]) hx hb zd_X9_act_15 hl (by decide) rfl (fun ls hl => ?_)
  refine zl_aload hx hb zd_X9_act_17 (lv_at hl 0 rfl) ?_
  refine zl_ifnull (tgt := 31) hx hb zd_X9_act_19 (by decide) (fun c9 => ?_) (fun c9 => ?_)
  · replace hf := zo_t c9 hf
    refine lv_iconst (v := 0) hx hb zd_X9_act_31 (by decide) ?_
    have hres := Option.some.inj hf; subst hres
    exact zw_iret (v := 0) (ty := .int) hx hb hr hlk rfl hw zd_X9_act_32 (Nat.le_refl 0) (Nat.le_refl 0)
  · replace hf := zo_f c9 hf
    refine lv_iload_n hx hb zd_X9_act_22 rfl (lv_at hl 3 rfl) ?_
    refine lv_if_lt (tgt := 31) hx hb zd_X9_act_23 (by decide) (fun c10 => ?_) (fun c10 => ?_)
    · replace hf := zo_t c10 hf
      refine lv_iconst (v := 0) hx hb zd_X9_act_31 (by decide) ?_
      have hres := Option.some.inj hf; subst hres
      exact zw_iret (v := 0) (ty := .int) hx hb hr hlk rfl hw zd_X9_act_32 (Nat.le_refl 0) (Nat.le_refl 0)
    · replace hf := zo_f c10 hf
      refine lv_iload_n hx hb zd_X9_act_26 rfl (lv_at hl 3 rfl) ?_
      refine lv_iconst (v := 3) hx hb zd_X9_act_27 (by decide) ?_
      refine lv_icmp_lt (tgt := 33) hx hb zd_X9_act_28 (by decide) (fun c11 => ?_) (fun c11 => ?_)
      · replace hf := zo_t c11 hf
        refine zl_aload_n hx hb zd_X9_act_33 rfl (lv_at hl 1 rfl) ?_
        replace hf := zo_b hf; obtain ⟨v12, ev12, hf⟩ := hf
        obtain ⟨u13, u13e, u13v⟩ := zo_b ev12
        obtain rfl := zv_r_e u13v
        refine zw_get S hK hw zk_9 (k := 10) (by decide) rfl zm_317 (Or.inl rfl) u13e zd_X9_act_34 ?_
        refine zl_aload hx hb zd_X9_act_37 (lv_at hl 0 rfl) ?_
        refine lv_iload_n hx hb zd_X9_act_39 rfl (lv_at hl 3 rfl) ?_
        refine lv_iload_n hx hb zd_X9_act_40 rfl (lv_at hl 4 rfl) ?_
        replace hf := zo_b hf; obtain ⟨a14, na14, hf⟩ := hf
        refine W.eq (g2 := F0 m 41 ls [.int (x3), .int (x2), va_rf (r8), va_rf ((some a14))]) (by rw [na14] <;> rfl) ?_
        replace hf := zo_b hf; obtain ⟨r15, er15, hf⟩ := hf
        refine zw_callV (n := 3) (ci := 2) (q := zc_cl[2]) (As := [va_rf (r8), .int (x2), .int (x3)]) (rest := []) S hK hw (zt_X2_perform l g r4 a14 r8 x2 x3 _ er15) zm_1019 zm_1020 zm_1021 zq_X2_perform zm_77 (by decide +kernel) ⟨Nat.le_of_ble_eq_true rfl, Nat.le_of_ble_eq_true rfl⟩ rfl rfl rfl (zi_X2_perform er15) hl.1 rfl (by simp [zv_cat, zv_ci, zv_cj]) zd_X9_act_41 ⟨(Nat.le_refl 0), (Nat.le_refl 0)⟩ (fun H locs hw => ?_)
        replace hw : zc_W g r15.1 H locs := hw
        have hres := Option.some.inj hf; subst hres
        exact zw_iret (v := r15.2) (ty := .int) hx hb hr hlk rfl hw zd_X9_act_44 (Nat.le_refl 0) (Nat.le_refl 0)
      · replace hf := zo_f c11 hf
        refine lv_iconst (v := 0) hx hb zd_X9_act_31 (by decide) ?_
        have hres := Option.some.inj hf; subst hres
        exact zw_iret (v := 0) (ty := .int) hx hb hr hlk rfl hw zd_X9_act_32 (Nat.le_refl 0) (Nat.le_refl 0)
def zf_X9_trace (h : zc_H) (q : Nat) (x1 : Int32) : Option (Int32) :=
  if ¬ zf_is h q 9 = true then none else
  (zf_gr h q 9 10).bind fun v1 =>
  v1.bind fun a3 =>
  (zf_X2_bodyAt h a3 x1).bind fun r4 =>
  some r4
abbrev zr_X9_trace : Room := { frames := 1, cells := 0, slots := 0, locals := 21 }
theorem zi_X9_trace {h : zc_H} {q : Nat} {x1 : Int32} {res : Int32} (hf : zf_X9_trace h q x1 = some res) : zf_is h q 9 = true := Decidable.not_not.mp (zo_n hf).1
set_option maxHeartbeats 4000000 in
set_option maxRecDepth 20000 in
theorem zt_X9_trace (l : Launch) (g : zc_G) (h : zc_H) (q : Nat) (x1 : Int32) (res : Int32) (hf : zf_X9_trace h q x1 = some res) : zc_M l g yX9_trace cX9_trace 2 (some .int) zr_X9_trace h [va_rf ((some q)), .int (x1)] h (some (.int (res))) := by
  refine zc_M.of (by decide) (by simp [lg_sl, zv_cat, zv_ci, zv_cj]) ?_
  intro p e s m below meth c ls S hK hw hr hlk hnm hl
  replace S : CallFix p m c cX9_trace 2 s [va_rf ((some q)), .int (x1)].toArray (zc_ws yX9_trace cX9_trace 2 (some .int)) RX9 := S
  have hx := S.1
  have hb := S.2.1
  replace hl : lv_has ls 2 [(0, va_rf ((some q))), (1, .int (x1))] := by simpa [lv_args, zv_cat, zv_ci, zv_cj] using hl
  generalize s.heap = H at hw ⊢
  obtain ⟨locs, hlocs⟩ : ∃ L : List Loc, L = [] := ⟨_, rfl⟩
  rw [← hlocs] at hw ⊢
  unfold zf_X9_trace at hf
  obtain ⟨-, hf⟩ := zo_n hf
  refine zl_aload_n hx hb zd_X9_trace_0 rfl (lv_at hl 0 rfl) ?_
  replace hf := zo_b hf; obtain ⟨v1, ev1, hf⟩ := hf
  obtain ⟨u2, u2e, u2v⟩ := zo_b ev1
  obtain rfl := zv_r_e u2v
  refine zw_get S hK hw zk_9 (k := 10) (by decide) rfl zm_317 (Or.inl rfl) u2e zd_X9_trace_1 ?_
  refine lv_iload_n hx hb zd_X9_trace_4 rfl (lv_at hl 1 rfl) ?_
  replace hf := zo_b hf; obtain ⟨a3, na3, hf⟩ := hf
  refine W.eq (g2 := F0 m 5 ls [.int (x1), va_rf ((some a3))]) (by rw [na3] <;> rfl) ?_
  replace hf := zo_b hf; obtain ⟨r4, er4, hf⟩ := hf
  refine zw_callV (n := 1) (ci := 2) (q := zc_cl[2]) (As := [.int (x1)]) (rest := []) S hK hw (zt_X2_bodyAt l g h a3 x1 _ er4) zm_1049 zm_1050 zm_1051 zq_X2_bodyAt zm_77 (by decide +kernel) ⟨Nat.le_of_ble_eq_true rfl, Nat.le_of_ble_eq_true rfl⟩ rfl rfl rfl (zi_X2_bodyAt er4) hl.1 rfl (by simp [zv_cat, zv_ci, zv_cj]) zd_X9_trace_5 ⟨(Nat.le_refl 0), (Nat.le_refl 0)⟩ (fun H locs hw => ?_)
  replace hw : zc_W g h H locs := hw
  have hres := Option.some.inj hf; subst hres
  exact zw_iret (v := r4) (ty := .int) hx hb hr hlk rfl hw zd_X9_trace_8 (Nat.le_refl 0) (Nat.le_refl 0)
def zf_X9_image (h : zc_H) (q : Nat) : Option (zc_H × Int32) :=
  if ¬ zf_is h q 9 = true then none else
  (zf_gr h q 9 2).bind fun v1 =>
  (zf_gr h q 9 1).bind fun v3 =>
  v1.bind fun a5 =>
  (zf_X6_becomeLike h a5 v3).bind fun r6 =>
  (zf_p r6 q 9 3 (.int (1))).bind fun h7 =>
  (zf_gr h7 q 9 1).bind fun v8 =>
  v8.bind fun a10 =>
  (zf_gr h7 a10 6 1).bind fun v11 =>
  v11.bind fun a13 =>
  (zf_Jx4a65c_size_8abf5 h7 a13).bind fun r14 =>
  some (h7, r14)
abbrev zr_X9_image : Room := { frames := 9, cells := 34, slots := 1360, locals := 250 }
theorem zi_X9_image {h : zc_H} {q : Nat} {res : zc_H × Int32} (hf : zf_X9_image h q = some res) : zf_is h q 9 = true := Decidable.not_not.mp (zo_n hf).1
set_option maxHeartbeats 4000000 in
set_option maxRecDepth 20000 in
theorem zt_X9_image (l : Launch) (g : zc_G) (h : zc_H) (q : Nat) (res : zc_H × Int32) (hf : zf_X9_image h q = some res) : zc_M l g yX9_image cX9_image 1 (some .int) zr_X9_image h [va_rf ((some q))] res.1 (some (.int (res.2))) := by
  refine zc_M.of (by decide) (by simp [lg_sl, zv_cat, zv_ci, zv_cj]) ?_
  intro p e s m below meth c ls S hK hw hr hlk hnm hl
  replace S : CallFix p m c cX9_image 1 s [va_rf ((some q))].toArray (zc_ws yX9_image cX9_image 1 (some .int)) RX9 := S
  have hx := S.1
  have hb := S.2.1
  replace hl : lv_has ls 1 [(0, va_rf ((some q)))] := by simpa [lv_args, zv_cat, zv_ci, zv_cj] using hl
  generalize s.heap = H at hw ⊢
  obtain ⟨locs, hlocs⟩ : ∃ L : List Loc, L = [] := ⟨_, rfl⟩
  rw [← hlocs] at hw ⊢
  unfold zf_X9_image at hf
  obtain ⟨-, hf⟩ := zo_n hf
  refine zl_aload_n hx hb zd_X9_image_0 rfl (lv_at hl 0 rfl) ?_
  replace hf := zo_b hf; obtain ⟨v1, ev1, hf⟩ := hf
  obtain ⟨u2, u2e, u2v⟩ := zo_b ev1
  obtain rfl := zv_r_e u2v
  refine zw_get S hK hw zk_9 (k := 2) (by decide) rfl zm_309 (Or.inl rfl) u2e zd_X9_image_1 ?_
  refine zl_aload_n hx hb zd_X9_image_4 rfl (lv_at hl 0 rfl) ?_
  replace hf := zo_b hf; obtain ⟨v3, ev3, hf⟩ := hf
  obtain ⟨u4, u4e, u4v⟩ := zo_b ev3
  obtain rfl := zv_r_e u4v
  refine zw_get S hK hw zk_9 (k := 1) (by decide) rfl zm_308 (Or.inl rfl) u4e zd_X9_image_5 ?_
  replace hf := zo_b hf; obtain ⟨a5, na5, hf⟩ := hf
  refine W.eq (g2 := F0 m 8 ls [va_rf (v3), va_rf ((some a5))]) (by rw [na5] <;> rfl) ?_
  replace hf := zo_b hf; obtain ⟨r6, er6, hf⟩ := hf
  refine zw_callV (n := 1) (ci := 6) (q := zc_cl[6]) (As := [va_rf (v3)]) (rest := []) S hK hw (zt_X6_becomeLike l g h a5 v3 _ er6) zm_1057 zm_1058 zm_1059 zq_X6_becomeLike zm_69 (by decide +kernel) ⟨Nat.le_of_ble_eq_true rfl, Nat.le_of_ble_eq_true rfl⟩ rfl rfl rfl (zi_X6_becomeLike er6) hl.1 rfl (by simp [zv_cat, zv_ci, zv_cj]) zd_X9_image_8 ⟨(by show 0 + (34 : Nat) ≤ (34 : Nat); omega), (by show 0 + (1360 : Nat) ≤ (1360 : Nat); omega)⟩ (fun H locs hw => ?_)
  replace hw : zc_W g r6 H locs := hw
  refine W.widen (k := (0 + 34)) (n := (0 + 1360)) (Nat.le_refl _) (Nat.le_refl _) ?_
  refine zl_aload_n hx hb zd_X9_image_11 rfl (lv_at hl 0 rfl) ?_
  refine lv_iconst (v := 1) hx hb zd_X9_image_12 (by decide) ?_
  replace hf := zo_b hf; obtain ⟨h7, eh7, hf⟩ := hf
  refine zw_put S hK hw zk_9 (k := 3) (by decide) rfl zm_310 (Or.inl rfl) eh7 (ty := .boolean) (by decide +kernel) rfl rfl zd_X9_image_13 (fun H locs hw => ?_)
  refine zl_aload_n hx hb zd_X9_image_16 rfl (lv_at hl 0 rfl) ?_
  replace hf := zo_b hf; obtain ⟨v8, ev8, hf⟩ := hf
  obtain ⟨u9, u9e, u9v⟩ := zo_b ev8
  obtain rfl := zv_r_e u9v
  refine zw_get S hK hw zk_9 (k := 1) (by decide) rfl zm_308 (Or.inl rfl) u9e zd_X9_image_17 ?_
  replace hf := zo_b hf; obtain ⟨a10, na10, hf⟩ := hf
  refine W.eq (g2 := F0 m 20 ls [va_rf ((some a10))]) (by rw [na10] <;> rfl) ?_
  replace hf := zo_b hf; obtain ⟨v11, ev11, hf⟩ := hf
  obtain ⟨u12, u12e, u12v⟩ := zo_b ev11
  obtain rfl := zv_r_e u12v
  refine zw_get S hK hw zk_6 (k := 1) (by decide) rfl zm_135 (Or.inl rfl) u12e zd_X9_image_20 ?_
  replace hf := zo_b hf; obtain ⟨a13, na13, hf⟩ := hf
  refine W.eq (g2 := F0 m 23 ls [va_rf ((some a13))]) (by rw [na13] <;> rfl) ?_
  replace hf := zo_b hf; obtain ⟨r14, er14, hf⟩ := hf
  refine zw_callV (n := 0) (ci := 11) (q := zc_cl[11]) (As := []) (rest := []) S hK hw (zt_Jx4a65c_size_8abf5 l g h7 a13 _ er14) zm_500 zm_425 zm_426 zq_Jx4a65c_size_8abf5 zm_72 (by decide +kernel) ⟨Nat.le_of_ble_eq_true rfl, Nat.le_of_ble_eq_true rfl⟩ rfl rfl rfl (zi_Jx4a65c_size_8abf5 er14) hl.1 rfl (by simp [zv_cat, zv_ci, zv_cj]) zd_X9_image_23 ⟨(by show (0 + 34) + (0 : Nat) ≤ (34 : Nat); omega), (by show (0 + 1360) + (0 : Nat) ≤ (1360 : Nat); omega)⟩ (fun H locs hw => ?_)
  replace hw : zc_W g h7 H locs := hw
  refine W.widen (k := ((0 + 34) + 0)) (n := ((0 + 1360) + 0)) (Nat.le_refl _) (Nat.le_refl _) ?_
  have hres := Option.some.inj hf; subst hres
  exact zw_iret (v := r14) (ty := .int) hx hb hr hlk rfl hw zd_X9_image_26 (by show _ ≤ (34 : Nat); omega) (by show _ ≤ (1360 : Nat); omega)
def zf_X9_restore_L31 (q : Nat) : Nat → zc_H → Int32 → Option (zc_H)
  | 0, _, _ => none
  | n + 1, h, y1 =>
    if 8 ≤ y1 then
      some h
    else
    (zf_X9_shelfAt h q y1).bind fun r12 =>
    let k73 := fun (h73j : zc_H) =>
      zf_X9_restore_L31 q n h73j (y1 + 1)
    if r12 = none then
      k73 h
    else
    r12.bind fun a14 =>
    (zf_X5_hasRemark h a14).bind fun r15 =>
    if r15 = 0 then
      k73 h
    else
    (zf_gr h q 9 1).bind fun v17 =>
    (zf_gi h a14 5 0).bind fun v19 =>
    v17.bind fun a21 =>
    (zf_X6_remarkAt h a21 v19).bind fun r22 =>
    if r22 = none then
      (zf_X5_hold h a14 (-1)).bind fun r24 =>
      k73 r24
    else
    k73 h
def zf_X9_restore (h : zc_H) (q : Nat) : Option (zc_H × Int32) :=
  if ¬ zf_is h q 9 = true then none else
  (zf_gi h q 9 3).bind fun v1 =>
  if v1 = 0 then
    (zf_X9_refuse h q (-6)).bind fun r35 =>
    some (r35.1, r35.2)
  else
  (zf_gr h q 9 1).bind fun v4 =>
  (zf_gr h q 9 2).bind fun v6 =>
  v4.bind fun a8 =>
  (zf_X6_becomeLike h a8 v6).bind fun r9 =>
  (zf_X9_readySteps r9 q).bind fun r10 =>
  (zf_X9_restore_L31 q 17 r10 0).bind fun w25 =>
  (zf_gr w25 q 9 1).bind fun v28 =>
  v28.bind fun a30 =>
  (zf_gr w25 a30 6 1).bind fun v31 =>
  v31.bind fun a33 =>
  (zf_Jx4a65c_size_8abf5 w25 a33).bind fun r34 =>
  some (w25, r34)
abbrev zr_X9_restore : Room := { frames := 9, cells := 34, slots := 1360, locals := 250 }
theorem zi_X9_restore {h : zc_H} {q : Nat} {res : zc_H × Int32} (hf : zf_X9_restore h q = some res) : zf_is h q 9 = true := Decidable.not_not.mp (zo_n hf).1
set_option maxHeartbeats 4000000 in
set_option maxRecDepth 20000 in
theorem zt_X9_restore (l : Launch) (g : zc_G) (h : zc_H) (q : Nat) (res : zc_H × Int32) (hf : zf_X9_restore h q = some res) : zc_M l g yX9_restore cX9_restore 3 (some .int) zr_X9_restore h [va_rf ((some q))] res.1 (some (.int (res.2))) := by
  refine zc_M.of (by decide) (by simp [lg_sl, zv_cat, zv_ci, zv_cj]) ?_
  intro p e s m below meth c ls S hK hw hr hlk hnm hl
  replace S : CallFix p m c cX9_restore 3 s [va_rf ((some q))].toArray (zc_ws yX9_restore cX9_restore 3 (some .int)) RX9 := S
  have hx := S.1
  have hb := S.2.1
  replace hl : lv_has ls 3 [(0, va_rf ((some q)))] := by simpa [lv_args, zv_cat, zv_ci, zv_cj] using hl
  generalize s.heap = H at hw ⊢
  obtain ⟨locs, hlocs⟩ : ∃ L : List Loc, L = [] := ⟨_, rfl⟩
  rw [← hlocs] at hw ⊢
  have L31 : ∀  (n : Nat) (h : zc_H) (y1 : Int32) (w : zc_H) (H : Heap) (locs : List Loc) (ls : Array Slot) (cl sl : Nat), cl + n * 0 ≤ 34 → sl + n * 0 ≤ 1360 → zf_X9_restore_L31 q n h y1 = some w → zc_W g h H locs → lv_has ls 3 [(0, va_rf ((some q))), (1, .int (y1))] → (∀ (H : Heap) (locs : List Loc) (ls : Array Slot) (cl1 sl1 : Nat), cl1 ≤ cl + n * 0 → sl1 ≤ sl + n * 0 → zc_W g w H locs → lv_has ls 3 [(0, va_rf ((some q)))] → W p l e zr_X9_restore s m [va_rf ((some q))].toArray below meth c H locs cl1 sl1 (zc_Q g below zr_X9_restore (some (.int (res.2))) res.1 [va_rf ((some q))] s) (F0 m 79 ls [])) → W p l e zr_X9_restore s m [va_rf ((some q))].toArray below meth c H locs cl sl (zc_Q g below zr_X9_restore (some (.int (res.2))) res.1 [va_rf ((some q))] s) (F0 m 31 ls []) := by
    intro n
    induction n with
    | zero =>
      intro h y1 w H locs ls cl sl hcl hsl hf
      cases hf
    | succ n ih =>
      intro h y1 w H locs ls cl sl hcl hsl hf hw hl  kk
      unfold zf_X9_restore_L31 at hf
      refine lv_iload_n hx hb zd_X9_restore_31 rfl (lv_at hl 1 rfl) ?_
      refine lv_bipush (v := 8) hx hb zd_X9_restore_32 (by decide) ?_
      refine lv_icmp_ge (tgt := 79) hx hb zd_X9_restore_34 (by decide) (fun c11 => ?_) (fun c11 => ?_)
      · replace hf := zo_t c11 hf
        have hres := Option.some.inj hf; subst hres
        exact kk _ _ _ _ _ (by omega) (by omega) hw (lv_sub hl [0] rfl)
      · replace hf := zo_f c11 hf
        refine zl_aload_n hx hb zd_X9_restore_37 rfl (lv_at hl 0 rfl) ?_
        refine lv_iload_n hx hb zd_X9_restore_38 rfl (lv_at hl 1 rfl) ?_
        replace hf := zo_b hf; obtain ⟨r12, er12, hf⟩ := hf
        refine zw_callV (n := 1) (ci := 9) (q := zc_cl[9]) (As := [.int (y1)]) (rest := []) S hK hw (zt_X9_shelfAt l g h q y1 _ er12) zm_345 zm_347 zm_0 zq_X9_shelfAt zm_68 (by decide +kernel) ⟨Nat.le_of_ble_eq_true rfl, Nat.le_of_ble_eq_true rfl⟩ rfl rfl rfl (zi_X9_shelfAt er12) hl.1 rfl (by simp [zv_cat, zv_ci, zv_cj]) zd_X9_restore_39 ⟨(by show cl + (0 : Nat) ≤ (34 : Nat); omega), (by show sl + (0 : Nat) ≤ (1360 : Nat); omega)⟩ (fun H locs hw => ?_)
        replace hw : zc_W g h H locs := hw
        refine W.widen (k := (cl + 0)) (n := (sl + 0)) (Nat.le_refl _) (Nat.le_refl _) ?_
        refine zl_astore_n (i := 2) (lv' := [(2, va_rf (r12)), (0, va_rf ((some q))), (1, .int (y1))]) hx hb zd_X9_restore_42 rfl hl (by decide) rfl (fun ls hl => ?_)
        refine zl_aload_n hx hb zd_X9_restore_43 rfl (lv_at hl 0 rfl) ?_
        have k73h : ∀ (h73j : zc_H) (H : Heap) (locs : List Loc) (ls : Array Slot), (
            zf_X9_restore_L31 q n h73j (y1 + 1)
            ) = some w → zc_W g h73j H locs → lv_has ls 3 [(0, va_rf ((some q))), (1, .int (y1))] → W p l e zr_X9_restore s m [va_rf ((some q))].toArray below meth c H locs (cl + 0) (sl + 0) (zc_Q g below zr_X9_restore (some (.int (res.2))) res.1 [va_rf ((some q))] s) (F0 m 73 ls []) := by
          intro h73j H locs ls hf hw hl
          refine lv_iinc (i := 1) (v := (y1 + 1)) (lv' := [(1, .int ((y1 + 1))), (0, va_rf ((some q)))]) hx hb zd_X9_restore_73 hl (k := 1) rfl (congrArg (_ + ·) (by decide)) (by decide) rfl (fun ls hl => ?_)
          refine lv_goto (tgt := 31) hx hb zd_X9_restore_76 (by decide) ?_
          exact ih h73j (y1 + 1) _ _ _ _ _ _ (by omega) (by omega) hf hw (lv_sub hl [1, 0] rfl) (fun H locs ls cl1 sl1 h1 h2 => kk H locs ls cl1 sl1 (by omega) (by omega))
        refine zl_ifnull (tgt := 73) hx hb zd_X9_restore_44 (by decide) (fun c13 => ?_) (fun c13 => ?_)
        · replace hf := zo_t c13 hf
          exact k73h h _ _ _ hf hw (lv_sub hl [1, 2] rfl)
        · replace hf := zo_f c13 hf
          refine zl_aload_n hx hb zd_X9_restore_47 rfl (lv_at hl 0 rfl) ?_
          replace hf := zo_b hf; obtain ⟨a14, na14, hf⟩ := hf
          refine W.eq (g2 := F0 m 48 ls [va_rf ((some a14))]) (by rw [na14] <;> rfl) ?_
          replace hf := zo_b hf; obtain ⟨r15, er15, hf⟩ := hf
          refine zw_callV (n := 0) (ci := 5) (q := zc_cl[5]) (As := []) (rest := []) S hK hw (zt_X5_hasRemark l g h a14 _ er15) zm_371 zm_372 zm_373 zq_X5_hasRemark zm_78 (by decide +kernel) ⟨Nat.le_of_ble_eq_true rfl, Nat.le_of_ble_eq_true rfl⟩ rfl rfl rfl (zi_X5_hasRemark er15) hl.1 rfl (by simp [zv_cat, zv_ci, zv_cj]) zd_X9_restore_48 ⟨(by show (cl + 0) + (0 : Nat) ≤ (34 : Nat); omega), (by show (sl + 0) + (0 : Nat) ≤ (1360 : Nat); omega)⟩ (fun H locs hw => ?_)
          replace hw : zc_W g h H locs := hw
          refine W.widen (k := ((cl + 0) + 0)) (n := ((sl + 0) + 0)) (Nat.le_refl _) (Nat.le_refl _) ?_
          refine lv_if_eq (tgt := 73) hx hb zd_X9_restore_51 (by decide) (fun c16 => ?_) (fun c16 => ?_)
          · replace hf := zo_t c16 hf
            exact k73h h _ _ _ hf hw (lv_sub hl [1, 2] rfl)
          · replace hf := zo_f c16 hf
            refine zl_aload_n hx hb zd_X9_restore_54 rfl (lv_at hl 1 rfl) ?_
            replace hf := zo_b hf; obtain ⟨v17, ev17, hf⟩ := hf
            obtain ⟨u18, u18e, u18v⟩ := zo_b ev17
            obtain rfl := zv_r_e u18v
            refine zw_get S hK hw zk_9 (k := 1) (by decide) rfl zm_308 (Or.inl rfl) u18e zd_X9_restore_55 ?_
            refine zl_aload_n hx hb zd_X9_restore_58 rfl (lv_at hl 0 rfl) ?_
            refine W.eq (g2 := F0 m 59 ls [va_rf ((some a14)), va_rf (v17)]) (by rw [na14] <;> rfl) ?_
            replace hf := zo_b hf; obtain ⟨v19, ev19, hf⟩ := hf
            obtain ⟨u20, u20e, u20v⟩ := zo_b ev19
            obtain rfl := zv_i_e u20v
            refine zw_get S hK hw zk_5 (k := 0) (by decide) rfl zm_295 (Or.inl rfl) u20e zd_X9_restore_59 ?_
            replace hf := zo_b hf; obtain ⟨a21, na21, hf⟩ := hf
            refine W.eq (g2 := F0 m 62 ls [.int (v19), va_rf ((some a21))]) (by rw [na21] <;> rfl) ?_
            replace hf := zo_b hf; obtain ⟨r22, er22, hf⟩ := hf
            refine zw_callV (n := 1) (ci := 6) (q := zc_cl[6]) (As := [.int (v19)]) (rest := []) S hK hw (zt_X6_remarkAt l g h a21 v19 _ er22) zm_420 zm_421 zm_422 zq_X6_remarkAt zm_69 (by decide +kernel) ⟨Nat.le_of_ble_eq_true rfl, Nat.le_of_ble_eq_true rfl⟩ rfl rfl rfl (zi_X6_remarkAt er22) hl.1 rfl (by simp [zv_cat, zv_ci, zv_cj]) zd_X9_restore_62 ⟨(by show ((cl + 0) + 0) + (0 : Nat) ≤ (34 : Nat); omega), (by show ((sl + 0) + 0) + (0 : Nat) ≤ (1360 : Nat); omega)⟩ (fun H locs hw => ?_)
            replace hw : zc_W g h H locs := hw
            refine W.widen (k := (((cl + 0) + 0) + 0)) (n := (((sl + 0) + 0) + 0)) (Nat.le_refl _) (Nat.le_refl _) ?_
            refine zl_ifnonnull (tgt := 73) hx hb zd_X9_restore_65 (by decide) (fun c23 => ?_) (fun c23 => ?_)
            · replace hf := zo_f c23 hf
              exact k73h h _ _ _ hf hw (lv_sub hl [1, 2] rfl)
            · replace hf := zo_t c23 hf
              refine zl_aload_n hx hb zd_X9_restore_68 rfl (lv_at hl 0 rfl) ?_
              refine lv_iconst (v := (-1)) hx hb zd_X9_restore_69 (by decide) ?_
              refine W.eq (g2 := F0 m 70 ls [.int ((-1)), va_rf ((some a14))]) (by rw [na14] <;> rfl) ?_
              replace hf := zo_b hf; obtain ⟨r24, er24, hf⟩ := hf
              refine zw_callV (n := 1) (ci := 5) (q := zc_cl[5]) (As := [.int ((-1))]) (rest := []) S hK hw (zt_X5_hold l g h a14 (-1) _ er24) zm_443 zm_444 zm_445 zq_X5_hold zm_78 (by decide +kernel) ⟨Nat.le_of_ble_eq_true rfl, Nat.le_of_ble_eq_true rfl⟩ rfl rfl rfl (zi_X5_hold er24) hl.1 rfl (by simp [zv_cat, zv_ci, zv_cj]) zd_X9_restore_70 ⟨(by show (((cl + 0) + 0) + 0) + (0 : Nat) ≤ (34 : Nat); omega), (by show (((sl + 0) + 0) + 0) + (0 : Nat) ≤ (1360 : Nat); omega)⟩ (fun H locs hw => ?_)
              replace hw : zc_W g r24 H locs := hw
              refine W.widen (k := ((((cl + 0) + 0) + 0) + 0)) (n := ((((sl + 0) + 0) + 0) + 0)) (Nat.le_refl _) (Nat.le_refl _) ?_
              exact k73h r24 _ _ _ hf hw (lv_sub hl [1, 2] rfl)
  unfold zf_X9_restore at hf
  obtain ⟨-, hf⟩ := zo_n hf
  refine zl_aload_n hx hb zd_X9_restore_0 rfl (lv_at hl 0 rfl) ?_
  replace hf := zo_b hf; obtain ⟨v1, ev1, hf⟩ := hf
  obtain ⟨u2, u2e, u2v⟩ := zo_b ev1
  obtain rfl := zv_i_e u2v
  refine zw_get S hK hw zk_9 (k := 3) (by decide) rfl zm_310 (Or.inl rfl) u2e zd_X9_restore_1 ?_
  refine lv_if_ne (tgt := 14) hx hb zd_X9_restore_4 (by decide) (fun c3 => ?_) (fun c3 => ?_)
  · replace hf := zo_f c3 hf
    refine zl_aload_n hx hb zd_X9_restore_14 rfl (lv_at hl 0 rfl) ?_
    replace hf := zo_b hf; obtain ⟨v4, ev4, hf⟩ := hf
    obtain ⟨u5, u5e, u5v⟩ := zo_b ev4
    obtain rfl := zv_r_e u5v
    refine zw_get S hK hw zk_9 (k := 1) (by decide) rfl zm_308 (Or.inl rfl) u5e zd_X9_restore_15 ?_
    refine zl_aload_n hx hb zd_X9_restore_18 rfl (lv_at hl 0 rfl) ?_
    replace hf := zo_b hf; obtain ⟨v6, ev6, hf⟩ := hf
    obtain ⟨u7, u7e, u7v⟩ := zo_b ev6
    obtain rfl := zv_r_e u7v
    refine zw_get S hK hw zk_9 (k := 2) (by decide) rfl zm_309 (Or.inl rfl) u7e zd_X9_restore_19 ?_
    replace hf := zo_b hf; obtain ⟨a8, na8, hf⟩ := hf
    refine W.eq (g2 := F0 m 22 ls [va_rf (v6), va_rf ((some a8))]) (by rw [na8] <;> rfl) ?_
    replace hf := zo_b hf; obtain ⟨r9, er9, hf⟩ := hf
    refine zw_callV (n := 1) (ci := 6) (q := zc_cl[6]) (As := [va_rf (v6)]) (rest := []) S hK hw (zt_X6_becomeLike l g h a8 v6 _ er9) zm_1057 zm_1058 zm_1059 zq_X6_becomeLike zm_69 (by decide +kernel) ⟨Nat.le_of_ble_eq_true rfl, Nat.le_of_ble_eq_true rfl⟩ rfl rfl rfl (zi_X6_becomeLike er9) hl.1 rfl (by simp [zv_cat, zv_ci, zv_cj]) zd_X9_restore_22 ⟨(by show 0 + (34 : Nat) ≤ (34 : Nat); omega), (by show 0 + (1360 : Nat) ≤ (1360 : Nat); omega)⟩ (fun H locs hw => ?_)
    replace hw : zc_W g r9 H locs := hw
    refine W.widen (k := (0 + 34)) (n := (0 + 1360)) (Nat.le_refl _) (Nat.le_refl _) ?_
    refine zl_aload_n hx hb zd_X9_restore_25 rfl (lv_at hl 0 rfl) ?_
    replace hf := zo_b hf; obtain ⟨r10, er10, hf⟩ := hf
    refine zw_callV (n := 0) (ci := 9) (q := zc_cl[9]) (As := []) (rest := []) S hK hw (zt_X9_readySteps l g r9 q _ er10) zm_695 zm_697 zm_14 zq_X9_readySteps zm_68 (by decide +kernel) ⟨Nat.le_of_ble_eq_true rfl, Nat.le_of_ble_eq_true rfl⟩ rfl rfl rfl (zi_X9_readySteps er10) hl.1 rfl (by simp [zv_cat, zv_ci, zv_cj]) zd_X9_restore_26 ⟨(by show (0 + 34) + (0 : Nat) ≤ (34 : Nat); omega), (by show (0 + 1360) + (0 : Nat) ≤ (1360 : Nat); omega)⟩ (fun H locs hw => ?_)
    replace hw : zc_W g r10 H locs := hw
    refine W.widen (k := ((0 + 34) + 0)) (n := ((0 + 1360) + 0)) (Nat.le_refl _) (Nat.le_refl _) ?_
    refine lv_iconst (v := 0) hx hb zd_X9_restore_29 (by decide) ?_
    refine lv_istore_n (i := 1) (lv' := [(1, .int (0)), (0, va_rf ((some q)))]) hx hb zd_X9_restore_30 rfl hl (by decide) rfl (fun ls hl => ?_)
    replace hf := zo_b hf; obtain ⟨w25, w25e, hf⟩ := hf
    refine L31  17 r10 0 _ _ _ _ _ _ (by omega) (by omega) w25e hw (lv_sub hl [1, 0] rfl) (fun H locs ls cl26 sl27 hcl26 hsl27 hw hl => ?_)
    refine zl_aload_n hx hb zd_X9_restore_79 rfl (lv_at hl 0 rfl) ?_
    replace hf := zo_b hf; obtain ⟨v28, ev28, hf⟩ := hf
    obtain ⟨u29, u29e, u29v⟩ := zo_b ev28
    obtain rfl := zv_r_e u29v
    refine zw_get S hK hw zk_9 (k := 1) (by decide) rfl zm_308 (Or.inl rfl) u29e zd_X9_restore_80 ?_
    replace hf := zo_b hf; obtain ⟨a30, na30, hf⟩ := hf
    refine W.eq (g2 := F0 m 83 ls [va_rf ((some a30))]) (by rw [na30] <;> rfl) ?_
    replace hf := zo_b hf; obtain ⟨v31, ev31, hf⟩ := hf
    obtain ⟨u32, u32e, u32v⟩ := zo_b ev31
    obtain rfl := zv_r_e u32v
    refine zw_get S hK hw zk_6 (k := 1) (by decide) rfl zm_135 (Or.inl rfl) u32e zd_X9_restore_83 ?_
    replace hf := zo_b hf; obtain ⟨a33, na33, hf⟩ := hf
    refine W.eq (g2 := F0 m 86 ls [va_rf ((some a33))]) (by rw [na33] <;> rfl) ?_
    replace hf := zo_b hf; obtain ⟨r34, er34, hf⟩ := hf
    refine zw_callV (n := 0) (ci := 11) (q := zc_cl[11]) (As := []) (rest := []) S hK hw (zt_Jx4a65c_size_8abf5 l g w25 a33 _ er34) zm_500 zm_425 zm_426 zq_Jx4a65c_size_8abf5 zm_72 (by decide +kernel) ⟨Nat.le_of_ble_eq_true rfl, Nat.le_of_ble_eq_true rfl⟩ rfl rfl rfl (zi_Jx4a65c_size_8abf5 er34) hl.1 rfl (by simp [zv_cat, zv_ci, zv_cj]) zd_X9_restore_86 ⟨(by show cl26 + (0 : Nat) ≤ (34 : Nat); omega), (by show sl27 + (0 : Nat) ≤ (1360 : Nat); omega)⟩ (fun H locs hw => ?_)
    replace hw : zc_W g w25 H locs := hw
    refine W.widen (k := (cl26 + 0)) (n := (sl27 + 0)) (Nat.le_refl _) (Nat.le_refl _) ?_
    have hres := Option.some.inj hf; subst hres
    exact zw_iret (v := r34) (ty := .int) hx hb hr hlk rfl hw zd_X9_restore_89 (by show _ ≤ (34 : Nat); omega) (by show _ ≤ (1360 : Nat); omega)
  · replace hf := zo_t c3 hf
    refine zl_aload_n hx hb zd_X9_restore_7 rfl (lv_at hl 0 rfl) ?_
    refine lv_bipush (v := (-6)) hx hb zd_X9_restore_8 (by decide) ?_
    replace hf := zo_b hf; obtain ⟨r35, er35, hf⟩ := hf
    refine zw_callV (n := 1) (ci := 9) (q := zc_cl[9]) (As := [.int ((-6))]) (rest := []) S hK hw (zt_X9_refuse l g h q (-6) _ er35) zm_349 zm_351 zm_1 zq_X9_refuse zm_68 (by decide +kernel) ⟨Nat.le_of_ble_eq_true rfl, Nat.le_of_ble_eq_true rfl⟩ rfl rfl rfl (zi_X9_refuse er35) hl.1 rfl (by simp [zv_cat, zv_ci, zv_cj]) zd_X9_restore_10 ⟨(by show 0 + (0 : Nat) ≤ (34 : Nat); omega), (by show 0 + (0 : Nat) ≤ (1360 : Nat); omega)⟩ (fun H locs hw => ?_)
    replace hw : zc_W g r35.1 H locs := hw
    refine W.widen (k := (0 + 0)) (n := (0 + 0)) (Nat.le_refl _) (Nat.le_refl _) ?_
    have hres := Option.some.inj hf; subst hres
    exact zw_iret (v := r35.2) (ty := .int) hx hb hr hlk rfl hw zd_X9_restore_13 (by show _ ≤ (34 : Nat); omega) (by show _ ≤ (1360 : Nat); omega)
def zf_X9_status (h : zc_H) (q : Nat) (x1 : Int32) : Option (Int32) :=
  if ¬ zf_is h q 9 = true then none else
  if x1 = 0 then
    (zf_gr h q 9 1).bind fun v2 =>
    v2.bind fun a4 =>
    (zf_gr h a4 6 0).bind fun v5 =>
    v5.bind fun a7 =>
    (zf_Jx4a65c_size_8abf5 h a7).bind fun r8 =>
    some r8
  else
  if x1 = 1 then
    (zf_gr h q 9 1).bind fun v10 =>
    v10.bind fun a12 =>
    (zf_gr h a12 6 1).bind fun v13 =>
    v13.bind fun a15 =>
    (zf_Jx4a65c_size_8abf5 h a15).bind fun r16 =>
    some r16
  else
  if x1 = 2 then
    (zf_gr h q 9 1).bind fun v18 =>
    v18.bind fun a20 =>
    (zf_gi h a20 6 2).bind fun v21 =>
    (zf_J6_bitCount_0f7a4 h v21).bind fun r23 =>
    some r23
  else
  if x1 = 3 then
    (zf_gr h q 9 1).bind fun v25 =>
    v25.bind fun a27 =>
    (zf_X6_openRoots h a27).bind fun r28 =>
    some r28
  else
  if x1 = 4 then
    (zf_gr h q 9 1).bind fun v30 =>
    v30.bind fun a32 =>
    (zf_X6_ruleOf h a32 (x1 - 4)).bind fun r33 =>
    some r33
  else
  if x1 = 5 then
    (zf_gr h q 9 1).bind fun v35 =>
    v35.bind fun a37 =>
    (zf_X6_ruleOf h a37 (x1 - 4)).bind fun r38 =>
    some r38
  else
  if x1 = 6 then
    (zf_gr h q 9 1).bind fun v40 =>
    v40.bind fun a42 =>
    (zf_X6_ruleOf h a42 (x1 - 4)).bind fun r43 =>
    some r43
  else
  if x1 = 7 then
    (zf_gr h q 9 1).bind fun v45 =>
    v45.bind fun a47 =>
    (zf_gi h a47 6 6).bind fun v48 =>
    some v48
  else
  if x1 = 8 then
    (zf_gr h q 9 1).bind fun v51 =>
    v51.bind fun a53 =>
    (zf_X6_latestCount h a53).bind fun r54 =>
    some r54
  else
  if x1 = 9 then
    (zf_gr h q 9 10).bind fun v56 =>
    v56.bind fun a58 =>
    (zf_gi h a58 2 1).bind fun v59 =>
    some v59
  else
  if x1 ≤ 10 then
    some (-1)
  else
  if 18 ≤ x1 then
    some (-1)
  else
  (zf_gr h q 9 4).bind fun v63 =>
  v63.bind fun a65 =>
  (zf_ai h a65 0 (x1 - 10)).bind fun v66 =>
  some v66
abbrev zr_X9_status : Room := { frames := 6, cells := 0, slots := 0, locals := 131 }
theorem zi_X9_status {h : zc_H} {q : Nat} {x1 : Int32} {res : Int32} (hf : zf_X9_status h q x1 = some res) : zf_is h q 9 = true := Decidable.not_not.mp (zo_n hf).1
set_option maxHeartbeats 4000000 in
set_option maxRecDepth 20000 in
theorem zt_X9_status (l : Launch) (g : zc_G) (h : zc_H) (q : Nat) (x1 : Int32) (res : Int32) (hf : zf_X9_status h q x1 = some res) : zc_M l g yX9_status cX9_status 2 (some .int) zr_X9_status h [va_rf ((some q)), .int (x1)] h (some (.int (res))) := by
  refine zc_M.of (by decide) (by simp [lg_sl, zv_cat, zv_ci, zv_cj]) ?_
  intro p e s m below meth c ls S hK hw hr hlk hnm hl
  replace S : CallFix p m c cX9_status 2 s [va_rf ((some q)), .int (x1)].toArray (zc_ws yX9_status cX9_status 2 (some .int)) RX9 := S
  have hx := S.1
  have hb := S.2.1
  replace hl : lv_has ls 2 [(0, va_rf ((some q))), (1, .int (x1))] := by simpa [lv_args, zv_cat, zv_ci, zv_cj] using hl
  generalize s.heap = H at hw ⊢
  obtain ⟨locs, hlocs⟩ : ∃ L : List Loc, L = [] := ⟨_, rfl⟩
  rw [← hlocs] at hw ⊢
  unfold zf_X9_status at hf
  obtain ⟨-, hf⟩ := zo_n hf
  refine lv_iload_n hx hb zd_X9_status_0 rfl (lv_at hl 1 rfl) ?_
  by_cases c1 : x1 = 0
  · replace hf := zo_t c1 hf
    refine W.eq (g2 := F0 m 1 ls (.int 0 :: [])) (by rw [c1] <;> rfl) ?_
    refine lv_tableIn (off := 55) (tgt := 56) hx hb zd_X9_status_1 (by decide) (by decide) (by decide) (by decide) ?_
    refine zl_aload_n hx hb zd_X9_status_56 rfl (lv_at hl 0 rfl) ?_
    replace hf := zo_b hf; obtain ⟨v2, ev2, hf⟩ := hf
    obtain ⟨u3, u3e, u3v⟩ := zo_b ev2
    obtain rfl := zv_r_e u3v
    refine zw_get S hK hw zk_9 (k := 1) (by decide) rfl zm_308 (Or.inl rfl) u3e zd_X9_status_57 ?_
    replace hf := zo_b hf; obtain ⟨a4, na4, hf⟩ := hf
    refine W.eq (g2 := F0 m 60 ls [va_rf ((some a4))]) (by rw [na4] <;> rfl) ?_
    replace hf := zo_b hf; obtain ⟨v5, ev5, hf⟩ := hf
    obtain ⟨u6, u6e, u6v⟩ := zo_b ev5
    obtain rfl := zv_r_e u6v
    refine zw_get S hK hw zk_6 (k := 0) (by decide) rfl zm_132 (Or.inl rfl) u6e zd_X9_status_60 ?_
    replace hf := zo_b hf; obtain ⟨a7, na7, hf⟩ := hf
    refine W.eq (g2 := F0 m 63 ls [va_rf ((some a7))]) (by rw [na7] <;> rfl) ?_
    replace hf := zo_b hf; obtain ⟨r8, er8, hf⟩ := hf
    refine zw_callV (n := 0) (ci := 11) (q := zc_cl[11]) (As := []) (rest := []) S hK hw (zt_Jx4a65c_size_8abf5 l g h a7 _ er8) zm_500 zm_425 zm_426 zq_Jx4a65c_size_8abf5 zm_72 (by decide +kernel) ⟨Nat.le_of_ble_eq_true rfl, Nat.le_of_ble_eq_true rfl⟩ rfl rfl rfl (zi_Jx4a65c_size_8abf5 er8) hl.1 rfl (by simp [zv_cat, zv_ci, zv_cj]) zd_X9_status_63 ⟨(Nat.le_refl 0), (Nat.le_refl 0)⟩ (fun H locs hw => ?_)
    replace hw : zc_W g h H locs := hw
    have hres := Option.some.inj hf; subst hres
    exact zw_iret (v := r8) (ty := .int) hx hb hr hlk rfl hw zd_X9_status_66 (Nat.le_refl 0) (Nat.le_refl 0)
  replace hf := zo_f c1 hf
  by_cases c9 : x1 = 1
  · replace hf := zo_t c9 hf
    refine W.eq (g2 := F0 m 1 ls (.int 1 :: [])) (by rw [c9] <;> rfl) ?_
    refine lv_tableIn (off := 66) (tgt := 67) hx hb zd_X9_status_1 (by decide) (by decide) (by decide) (by decide) ?_
    refine zl_aload_n hx hb zd_X9_status_67 rfl (lv_at hl 0 rfl) ?_
    replace hf := zo_b hf; obtain ⟨v10, ev10, hf⟩ := hf
    obtain ⟨u11, u11e, u11v⟩ := zo_b ev10
    obtain rfl := zv_r_e u11v
    refine zw_get S hK hw zk_9 (k := 1) (by decide) rfl zm_308 (Or.inl rfl) u11e zd_X9_status_68 ?_
    replace hf := zo_b hf; obtain ⟨a12, na12, hf⟩ := hf
    refine W.eq (g2 := F0 m 71 ls [va_rf ((some a12))]) (by rw [na12] <;> rfl) ?_
    replace hf := zo_b hf; obtain ⟨v13, ev13, hf⟩ := hf
    obtain ⟨u14, u14e, u14v⟩ := zo_b ev13
    obtain rfl := zv_r_e u14v
    refine zw_get S hK hw zk_6 (k := 1) (by decide) rfl zm_135 (Or.inl rfl) u14e zd_X9_status_71 ?_
    replace hf := zo_b hf; obtain ⟨a15, na15, hf⟩ := hf
    refine W.eq (g2 := F0 m 74 ls [va_rf ((some a15))]) (by rw [na15] <;> rfl) ?_
    replace hf := zo_b hf; obtain ⟨r16, er16, hf⟩ := hf
    refine zw_callV (n := 0) (ci := 11) (q := zc_cl[11]) (As := []) (rest := []) S hK hw (zt_Jx4a65c_size_8abf5 l g h a15 _ er16) zm_500 zm_425 zm_426 zq_Jx4a65c_size_8abf5 zm_72 (by decide +kernel) ⟨Nat.le_of_ble_eq_true rfl, Nat.le_of_ble_eq_true rfl⟩ rfl rfl rfl (zi_Jx4a65c_size_8abf5 er16) hl.1 rfl (by simp [zv_cat, zv_ci, zv_cj]) zd_X9_status_74 ⟨(Nat.le_refl 0), (Nat.le_refl 0)⟩ (fun H locs hw => ?_)
    replace hw : zc_W g h H locs := hw
    have hres := Option.some.inj hf; subst hres
    exact zw_iret (v := r16) (ty := .int) hx hb hr hlk rfl hw zd_X9_status_77 (Nat.le_refl 0) (Nat.le_refl 0)
  replace hf := zo_f c9 hf
  by_cases c17 : x1 = 2
  · replace hf := zo_t c17 hf
    refine W.eq (g2 := F0 m 1 ls (.int 2 :: [])) (by rw [c17] <;> rfl) ?_
    refine lv_tableIn (off := 77) (tgt := 78) hx hb zd_X9_status_1 (by decide) (by decide) (by decide) (by decide) ?_
    refine zl_aload_n hx hb zd_X9_status_78 rfl (lv_at hl 0 rfl) ?_
    replace hf := zo_b hf; obtain ⟨v18, ev18, hf⟩ := hf
    obtain ⟨u19, u19e, u19v⟩ := zo_b ev18
    obtain rfl := zv_r_e u19v
    refine zw_get S hK hw zk_9 (k := 1) (by decide) rfl zm_308 (Or.inl rfl) u19e zd_X9_status_79 ?_
    replace hf := zo_b hf; obtain ⟨a20, na20, hf⟩ := hf
    refine W.eq (g2 := F0 m 82 ls [va_rf ((some a20))]) (by rw [na20] <;> rfl) ?_
    replace hf := zo_b hf; obtain ⟨v21, ev21, hf⟩ := hf
    obtain ⟨u22, u22e, u22v⟩ := zo_b ev21
    obtain rfl := zv_i_e u22v
    refine zw_get S hK hw zk_6 (k := 2) (by decide) rfl zm_137 (Or.inl rfl) u22e zd_X9_status_82 ?_
    replace hf := zo_b hf; obtain ⟨r23, er23, hf⟩ := hf
    refine zw_callS (n := 1) (As := [.int (v21)]) (rest := []) S hK hw (zt_J6_bitCount_0f7a4 l g h v21 _ er23) zm_805 zm_806 zq_J6_bitCount_0f7a4 zm_88 (by decide +kernel) ⟨Nat.le_of_ble_eq_true rfl, Nat.le_of_ble_eq_true rfl⟩ rfl hl.1 rfl (by simp [zv_cat, zv_ci, zv_cj]) zd_X9_status_85 ⟨(Nat.le_refl 0), (Nat.le_refl 0)⟩ (fun H locs hw => ?_)
    replace hw : zc_W g h H locs := hw
    have hres := Option.some.inj hf; subst hres
    exact zw_iret (v := r23) (ty := .int) hx hb hr hlk rfl hw zd_X9_status_88 (Nat.le_refl 0) (Nat.le_refl 0)
  replace hf := zo_f c17 hf
  by_cases c24 : x1 = 3
  · replace hf := zo_t c24 hf
    refine W.eq (g2 := F0 m 1 ls (.int 3 :: [])) (by rw [c24] <;> rfl) ?_
    refine lv_tableIn (off := 88) (tgt := 89) hx hb zd_X9_status_1 (by decide) (by decide) (by decide) (by decide) ?_
    refine zl_aload_n hx hb zd_X9_status_89 rfl (lv_at hl 0 rfl) ?_
    replace hf := zo_b hf; obtain ⟨v25, ev25, hf⟩ := hf
    obtain ⟨u26, u26e, u26v⟩ := zo_b ev25
    obtain rfl := zv_r_e u26v
    refine zw_get S hK hw zk_9 (k := 1) (by decide) rfl zm_308 (Or.inl rfl) u26e zd_X9_status_90 ?_
    replace hf := zo_b hf; obtain ⟨a27, na27, hf⟩ := hf
    refine W.eq (g2 := F0 m 93 ls [va_rf ((some a27))]) (by rw [na27] <;> rfl) ?_
    replace hf := zo_b hf; obtain ⟨r28, er28, hf⟩ := hf
    refine zw_callV (n := 0) (ci := 6) (q := zc_cl[6]) (As := []) (rest := []) S hK hw (zt_X6_openRoots l g h a27 _ er28) zm_1071 zm_1072 zm_1073 zq_X6_openRoots zm_69 (by decide +kernel) ⟨Nat.le_of_ble_eq_true rfl, Nat.le_of_ble_eq_true rfl⟩ rfl rfl rfl (zi_X6_openRoots er28) hl.1 rfl (by simp [zv_cat, zv_ci, zv_cj]) zd_X9_status_93 ⟨(Nat.le_refl 0), (Nat.le_refl 0)⟩ (fun H locs hw => ?_)
    replace hw : zc_W g h H locs := hw
    have hres := Option.some.inj hf; subst hres
    exact zw_iret (v := r28) (ty := .int) hx hb hr hlk rfl hw zd_X9_status_96 (Nat.le_refl 0) (Nat.le_refl 0)
  replace hf := zo_f c24 hf
  by_cases c29 : x1 = 4
  · replace hf := zo_t c29 hf
    refine W.eq (g2 := F0 m 1 ls (.int 4 :: [])) (by rw [c29] <;> rfl) ?_
    refine lv_tableIn (off := 96) (tgt := 97) hx hb zd_X9_status_1 (by decide) (by decide) (by decide) (by decide) ?_
    refine zl_aload_n hx hb zd_X9_status_97 rfl (lv_at hl 0 rfl) ?_
    replace hf := zo_b hf; obtain ⟨v30, ev30, hf⟩ := hf
    obtain ⟨u31, u31e, u31v⟩ := zo_b ev30
    obtain rfl := zv_r_e u31v
    refine zw_get S hK hw zk_9 (k := 1) (by decide) rfl zm_308 (Or.inl rfl) u31e zd_X9_status_98 ?_
    refine lv_iload_n hx hb zd_X9_status_101 rfl (lv_at hl 1 rfl) ?_
    refine lv_iconst (v := 4) hx hb zd_X9_status_102 (by decide) ?_
    refine lv_isub hx hb zd_X9_status_103 ?_
    replace hf := zo_b hf; obtain ⟨a32, na32, hf⟩ := hf
    refine W.eq (g2 := F0 m 104 ls [.int ((x1 - 4)), va_rf ((some a32))]) (by rw [na32] <;> rfl) ?_
    replace hf := zo_b hf; obtain ⟨r33, er33, hf⟩ := hf
    refine zw_callV (n := 1) (ci := 6) (q := zc_cl[6]) (As := [.int ((x1 - 4))]) (rest := []) S hK hw (zt_X6_ruleOf l g h a32 (x1 - 4) _ er33) zm_687 zm_688 zm_689 zq_X6_ruleOf zm_69 (by decide +kernel) ⟨Nat.le_of_ble_eq_true rfl, Nat.le_of_ble_eq_true rfl⟩ rfl rfl rfl (zi_X6_ruleOf er33) hl.1 rfl (by simp [zv_cat, zv_ci, zv_cj]) zd_X9_status_104 ⟨(Nat.le_refl 0), (Nat.le_refl 0)⟩ (fun H locs hw => ?_)
    replace hw : zc_W g h H locs := hw
    have hres := Option.some.inj hf; subst hres
    exact zw_iret (v := r33) (ty := .int) hx hb hr hlk rfl hw zd_X9_status_107 (Nat.le_refl 0) (Nat.le_refl 0)
  replace hf := zo_f c29 hf
  by_cases c34 : x1 = 5
  · replace hf := zo_t c34 hf
    refine W.eq (g2 := F0 m 1 ls (.int 5 :: [])) (by rw [c34] <;> rfl) ?_
    refine lv_tableIn (off := 96) (tgt := 97) hx hb zd_X9_status_1 (by decide) (by decide) (by decide) (by decide) ?_
    refine zl_aload_n hx hb zd_X9_status_97 rfl (lv_at hl 0 rfl) ?_
    replace hf := zo_b hf; obtain ⟨v35, ev35, hf⟩ := hf
    obtain ⟨u36, u36e, u36v⟩ := zo_b ev35
    obtain rfl := zv_r_e u36v
    refine zw_get S hK hw zk_9 (k := 1) (by decide) rfl zm_308 (Or.inl rfl) u36e zd_X9_status_98 ?_
    refine lv_iload_n hx hb zd_X9_status_101 rfl (lv_at hl 1 rfl) ?_
    refine lv_iconst (v := 4) hx hb zd_X9_status_102 (by decide) ?_
    refine lv_isub hx hb zd_X9_status_103 ?_
    replace hf := zo_b hf; obtain ⟨a37, na37, hf⟩ := hf
    refine W.eq (g2 := F0 m 104 ls [.int ((x1 - 4)), va_rf ((some a37))]) (by rw [na37] <;> rfl) ?_
    replace hf := zo_b hf; obtain ⟨r38, er38, hf⟩ := hf
    refine zw_callV (n := 1) (ci := 6) (q := zc_cl[6]) (As := [.int ((x1 - 4))]) (rest := []) S hK hw (zt_X6_ruleOf l g h a37 (x1 - 4) _ er38) zm_687 zm_688 zm_689 zq_X6_ruleOf zm_69 (by decide +kernel) ⟨Nat.le_of_ble_eq_true rfl, Nat.le_of_ble_eq_true rfl⟩ rfl rfl rfl (zi_X6_ruleOf er38) hl.1 rfl (by simp [zv_cat, zv_ci, zv_cj]) zd_X9_status_104 ⟨(Nat.le_refl 0), (Nat.le_refl 0)⟩ (fun H locs hw => ?_)
    replace hw : zc_W g h H locs := hw
    have hres := Option.some.inj hf; subst hres
    exact zw_iret (v := r38) (ty := .int) hx hb hr hlk rfl hw zd_X9_status_107 (Nat.le_refl 0) (Nat.le_refl 0)
  replace hf := zo_f c34 hf
  by_cases c39 : x1 = 6
  · replace hf := zo_t c39 hf
    refine W.eq (g2 := F0 m 1 ls (.int 6 :: [])) (by rw [c39] <;> rfl) ?_
    refine lv_tableIn (off := 96) (tgt := 97) hx hb zd_X9_status_1 (by decide) (by decide) (by decide) (by decide) ?_
    refine zl_aload_n hx hb zd_X9_status_97 rfl (lv_at hl 0 rfl) ?_
    replace hf := zo_b hf; obtain ⟨v40, ev40, hf⟩ := hf
    obtain ⟨u41, u41e, u41v⟩ := zo_b ev40
    obtain rfl := zv_r_e u41v
    refine zw_get S hK hw zk_9 (k := 1) (by decide) rfl zm_308 (Or.inl rfl) u41e zd_X9_status_98 ?_
    refine lv_iload_n hx hb zd_X9_status_101 rfl (lv_at hl 1 rfl) ?_
    refine lv_iconst (v := 4) hx hb zd_X9_status_102 (by decide) ?_
    refine lv_isub hx hb zd_X9_status_103 ?_
    replace hf := zo_b hf; obtain ⟨a42, na42, hf⟩ := hf
    refine W.eq (g2 := F0 m 104 ls [.int ((x1 - 4)), va_rf ((some a42))]) (by rw [na42] <;> rfl) ?_
    replace hf := zo_b hf; obtain ⟨r43, er43, hf⟩ := hf
    refine zw_callV (n := 1) (ci := 6) (q := zc_cl[6]) (As := [.int ((x1 - 4))]) (rest := []) S hK hw (zt_X6_ruleOf l g h a42 (x1 - 4) _ er43) zm_687 zm_688 zm_689 zq_X6_ruleOf zm_69 (by decide +kernel) ⟨Nat.le_of_ble_eq_true rfl, Nat.le_of_ble_eq_true rfl⟩ rfl rfl rfl (zi_X6_ruleOf er43) hl.1 rfl (by simp [zv_cat, zv_ci, zv_cj]) zd_X9_status_104 ⟨(Nat.le_refl 0), (Nat.le_refl 0)⟩ (fun H locs hw => ?_)
    replace hw : zc_W g h H locs := hw
    have hres := Option.some.inj hf; subst hres
    exact zw_iret (v := r43) (ty := .int) hx hb hr hlk rfl hw zd_X9_status_107 (Nat.le_refl 0) (Nat.le_refl 0)
  replace hf := zo_f c39 hf
  by_cases c44 : x1 = 7
  · replace hf := zo_t c44 hf
    refine W.eq (g2 := F0 m 1 ls (.int 7 :: [])) (by rw [c44] <;> rfl) ?_
    refine lv_tableIn (off := 107) (tgt := 108) hx hb zd_X9_status_1 (by decide) (by decide) (by decide) (by decide) ?_
    refine zl_aload_n hx hb zd_X9_status_108 rfl (lv_at hl 0 rfl) ?_
    replace hf := zo_b hf; obtain ⟨v45, ev45, hf⟩ := hf
    obtain ⟨u46, u46e, u46v⟩ := zo_b ev45
    obtain rfl := zv_r_e u46v
    refine zw_get S hK hw zk_9 (k := 1) (by decide) rfl zm_308 (Or.inl rfl) u46e zd_X9_status_109 ?_
    replace hf := zo_b hf; obtain ⟨a47, na47, hf⟩ := hf
    refine W.eq (g2 := F0 m 112 ls [va_rf ((some a47))]) (by rw [na47] <;> rfl) ?_
    replace hf := zo_b hf; obtain ⟨v48, ev48, hf⟩ := hf
    obtain ⟨u49, u49e, u49v⟩ := zo_b ev48
    obtain rfl := zv_i_e u49v
    refine zw_get S hK hw zk_6 (k := 6) (by decide) rfl zm_145 (Or.inl rfl) u49e zd_X9_status_112 ?_
    have hres := Option.some.inj hf; subst hres
    exact zw_iret (v := v48) (ty := .int) hx hb hr hlk rfl hw zd_X9_status_115 (Nat.le_refl 0) (Nat.le_refl 0)
  replace hf := zo_f c44 hf
  by_cases c50 : x1 = 8
  · replace hf := zo_t c50 hf
    refine W.eq (g2 := F0 m 1 ls (.int 8 :: [])) (by rw [c50] <;> rfl) ?_
    refine lv_tableIn (off := 115) (tgt := 116) hx hb zd_X9_status_1 (by decide) (by decide) (by decide) (by decide) ?_
    refine zl_aload_n hx hb zd_X9_status_116 rfl (lv_at hl 0 rfl) ?_
    replace hf := zo_b hf; obtain ⟨v51, ev51, hf⟩ := hf
    obtain ⟨u52, u52e, u52v⟩ := zo_b ev51
    obtain rfl := zv_r_e u52v
    refine zw_get S hK hw zk_9 (k := 1) (by decide) rfl zm_308 (Or.inl rfl) u52e zd_X9_status_117 ?_
    replace hf := zo_b hf; obtain ⟨a53, na53, hf⟩ := hf
    refine W.eq (g2 := F0 m 120 ls [va_rf ((some a53))]) (by rw [na53] <;> rfl) ?_
    replace hf := zo_b hf; obtain ⟨r54, er54, hf⟩ := hf
    refine zw_callV (n := 0) (ci := 6) (q := zc_cl[6]) (As := []) (rest := []) S hK hw (zt_X6_latestCount l g h a53 _ er54) zm_1076 zm_1077 zm_1078 zq_X6_latestCount zm_69 (by decide +kernel) ⟨Nat.le_of_ble_eq_true rfl, Nat.le_of_ble_eq_true rfl⟩ rfl rfl rfl (zi_X6_latestCount er54) hl.1 rfl (by simp [zv_cat, zv_ci, zv_cj]) zd_X9_status_120 ⟨(Nat.le_refl 0), (Nat.le_refl 0)⟩ (fun H locs hw => ?_)
    replace hw : zc_W g h H locs := hw
    have hres := Option.some.inj hf; subst hres
    exact zw_iret (v := r54) (ty := .int) hx hb hr hlk rfl hw zd_X9_status_123 (Nat.le_refl 0) (Nat.le_refl 0)
  replace hf := zo_f c50 hf
  by_cases c55 : x1 = 9
  · replace hf := zo_t c55 hf
    refine W.eq (g2 := F0 m 1 ls (.int 9 :: [])) (by rw [c55] <;> rfl) ?_
    refine lv_tableIn (off := 123) (tgt := 124) hx hb zd_X9_status_1 (by decide) (by decide) (by decide) (by decide) ?_
    refine zl_aload_n hx hb zd_X9_status_124 rfl (lv_at hl 0 rfl) ?_
    replace hf := zo_b hf; obtain ⟨v56, ev56, hf⟩ := hf
    obtain ⟨u57, u57e, u57v⟩ := zo_b ev56
    obtain rfl := zv_r_e u57v
    refine zw_get S hK hw zk_9 (k := 10) (by decide) rfl zm_317 (Or.inl rfl) u57e zd_X9_status_125 ?_
    replace hf := zo_b hf; obtain ⟨a58, na58, hf⟩ := hf
    refine W.eq (g2 := F0 m 128 ls [va_rf ((some a58))]) (by rw [na58] <;> rfl) ?_
    replace hf := zo_b hf; obtain ⟨v59, ev59, hf⟩ := hf
    obtain ⟨u60, u60e, u60v⟩ := zo_b ev59
    obtain rfl := zv_i_e u60v
    refine zw_get S hK hw zk_2 (k := 1) (by decide) rfl zm_274 (Or.inl rfl) u60e zd_X9_status_128 ?_
    have hres := Option.some.inj hf; subst hres
    exact zw_iret (v := v59) (ty := .int) hx hb hr hlk rfl hw zd_X9_status_131 (Nat.le_refl 0) (Nat.le_refl 0)
  replace hf := zo_f c55 hf
  have zc1 : (x1 : Int32).toInt ≠ 0 := fun h => c1 (Int32.toInt_inj.mp (h.trans (by decide)))
  have zc9 : (x1 : Int32).toInt ≠ 1 := fun h => c9 (Int32.toInt_inj.mp (h.trans (by decide)))
  have zc17 : (x1 : Int32).toInt ≠ 2 := fun h => c17 (Int32.toInt_inj.mp (h.trans (by decide)))
  have zc24 : (x1 : Int32).toInt ≠ 3 := fun h => c24 (Int32.toInt_inj.mp (h.trans (by decide)))
  have zc29 : (x1 : Int32).toInt ≠ 4 := fun h => c29 (Int32.toInt_inj.mp (h.trans (by decide)))
  have zc34 : (x1 : Int32).toInt ≠ 5 := fun h => c34 (Int32.toInt_inj.mp (h.trans (by decide)))
  have zc39 : (x1 : Int32).toInt ≠ 6 := fun h => c39 (Int32.toInt_inj.mp (h.trans (by decide)))
  have zc44 : (x1 : Int32).toInt ≠ 7 := fun h => c44 (Int32.toInt_inj.mp (h.trans (by decide)))
  have zc50 : (x1 : Int32).toInt ≠ 8 := fun h => c50 (Int32.toInt_inj.mp (h.trans (by decide)))
  have zc55 : (x1 : Int32).toInt ≠ 9 := fun h => c55 (Int32.toInt_inj.mp (h.trans (by decide)))
  refine lv_tableOut (tgt := 132) hx hb zd_X9_status_1 (by omega) (by decide) ?_
  refine lv_iload_n hx hb zd_X9_status_132 rfl (lv_at hl 1 rfl) ?_
  refine lv_bipush (v := 10) hx hb zd_X9_status_133 (by decide) ?_
  refine lv_icmp_le (tgt := 156) hx hb zd_X9_status_135 (by decide) (fun c61 => ?_) (fun c61 => ?_)
  · replace hf := zo_t c61 hf
    refine lv_iconst (v := (-1)) hx hb zd_X9_status_156 (by decide) ?_
    have hres := Option.some.inj hf; subst hres
    exact zw_iret (v := (-1)) (ty := .int) hx hb hr hlk rfl hw zd_X9_status_157 (Nat.le_refl 0) (Nat.le_refl 0)
  · replace hf := zo_f c61 hf
    refine lv_iload_n hx hb zd_X9_status_138 rfl (lv_at hl 1 rfl) ?_
    refine lv_bipush (v := 18) hx hb zd_X9_status_139 (by decide) ?_
    refine lv_icmp_ge (tgt := 156) hx hb zd_X9_status_141 (by decide) (fun c62 => ?_) (fun c62 => ?_)
    · replace hf := zo_t c62 hf
      refine lv_iconst (v := (-1)) hx hb zd_X9_status_156 (by decide) ?_
      have hres := Option.some.inj hf; subst hres
      exact zw_iret (v := (-1)) (ty := .int) hx hb hr hlk rfl hw zd_X9_status_157 (Nat.le_refl 0) (Nat.le_refl 0)
    · replace hf := zo_f c62 hf
      refine zl_aload_n hx hb zd_X9_status_144 rfl (lv_at hl 0 rfl) ?_
      replace hf := zo_b hf; obtain ⟨v63, ev63, hf⟩ := hf
      obtain ⟨u64, u64e, u64v⟩ := zo_b ev63
      obtain rfl := zv_r_e u64v
      refine zw_get S hK hw zk_9 (k := 4) (by decide) rfl zm_311 (Or.inl rfl) u64e zd_X9_status_145 ?_
      refine lv_iload_n hx hb zd_X9_status_148 rfl (lv_at hl 1 rfl) ?_
      refine lv_bipush (v := 10) hx hb zd_X9_status_149 (by decide) ?_
      refine lv_isub hx hb zd_X9_status_151 ?_
      replace hf := zo_b hf; obtain ⟨a65, na65, hf⟩ := hf
      refine W.eq (g2 := F0 m 152 ls [.int ((x1 - 10)), va_rf ((some a65))]) (by rw [na65] <;> rfl) ?_
      replace hf := zo_b hf; obtain ⟨v66, ev66, hf⟩ := hf
      refine zw_iald S hK hw ev66 zd_X9_status_152 ?_
      refine lv_goto (tgt := 157) hx hb zd_X9_status_153 (by decide) ?_
      have hres := Option.some.inj hf; subst hres
      exact zw_iret (v := v66) (ty := .int) hx hb hr hlk rfl hw zd_X9_status_157 (Nat.le_refl 0) (Nat.le_refl 0)
