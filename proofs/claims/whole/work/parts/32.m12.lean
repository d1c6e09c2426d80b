def zf_J15_checkIndex_7cf53 (h : zc_H) (x0 : Int32) (x1 : Int32) : Option (Int32) :=
  (zf_J3_checkIndex_8e157 h x0 x1 none).bind fun r1 =>
  some r1
abbrev zr_J15_checkIndex_7cf53 : Room := { frames := 1, cells := 0, slots := 0, locals := 22 }
set_option maxHeartbeats 4000000 in
set_option maxRecDepth 20000 in
theorem zt_J15_checkIndex_7cf53 (l : Launch) (g : zc_G) (h : zc_H) (x0 : Int32) (x1 : Int32) (res : Int32) (hf : zf_J15_checkIndex_7cf53 h x0 x1 = some res) : zc_M l g yJ15_checkIndex_7cf53 cJ15_checkIndex_7cf53 2 (some .int) zr_J15_checkIndex_7cf53 h [.int (x0), .int (x1)] h (some (.int (res))) := by
  refine zc_M.of (by decide) (by simp [lg_sl, zv_cat, zv_ci, zv_cj]) ?_
  intro p e s m below meth c ls S hK hw hr hlk hnm hl
  replace S : CallFix p m c cJ15_checkIndex_7cf53 2 s [.int (x0), .int (x1)].toArray (zc_ws yJ15_checkIndex_7cf53 cJ15_checkIndex_7cf53 2 (some .int)) RJ15 := S
  have hx := S.1
  have hb := S.2.1
  replace hl : lv_has ls 2 [(0, .int (x0)), (1, .int (x1))] := by simpa [lv_args, zv_cat, zv_ci, zv_cj] using hl
  generalize s.heap = H at hw ⊢
  obtain ⟨locs, hlocs⟩ : ∃ L : List Loc, L = [] := ⟨_, rfl⟩
  rw [← hlocs] at hw ⊢
  unfold zf_J15_checkIndex_7cf53 at hf
  refine lv_iload_n hx hb zd_J15_checkIndex_7cf53_0 rfl (lv_at hl 0 rfl) ?_
  refine lv_iload_n hx hb zd_J15_checkIndex_7cf53_1 rfl (lv_at hl 1 rfl) ?_
  refine zl_null hx hb zd_J15_checkIndex_7cf53_2 ?_
  replace hf := zo_b hf; obtain ⟨r1, er1, hf⟩ := hf
  refine zw_callS (n := 3) (As := [.int (x0), .int (x1), va_rf (none)]) (rest := []) S hK hw (zt_J3_checkIndex_8e157 l g h x0 x1 none _ er1) zm_435 zm_436 zq_J3_checkIndex_8e157 zm_83 (by decide +kernel) ⟨Nat.le_of_ble_eq_true rfl, Nat.le_of_ble_eq_true rfl⟩ rfl hl.1 rfl (by simp [zv_cat, zv_ci, zv_cj]) zd_J15_checkIndex_7cf53_3 ⟨(Nat.le_refl 0), (Nat.le_refl 0)⟩ (fun H locs hw => ?_)
  replace hw : zc_W g h H locs := hw
  have hres := Option.some.inj hf; subst hres
  exact zw_iret (v := r1) (ty := .int) hx hb hr hlk rfl hw zd_J15_checkIndex_7cf53_6 (Nat.le_refl 0) (Nat.le_refl 0)
def zf_Jx4a65c_elementData_915e3 (h : zc_H) (q : Nat) (x1 : Int32) : Option (Option Nat) :=
  if ¬ zf_is h q 11 = true then none else
  (zf_gr h q 11 1).bind fun v1 =>
  v1.bind fun a3 =>
  (zf_ar h a3 4 x1).bind fun v4 =>
  some v4
abbrev zr_Jx4a65c_elementData_915e3 : Room := { frames := 0, cells := 0, slots := 0, locals := 0 }
theorem zi_Jx4a65c_elementData_915e3 {h : zc_H} {q : Nat} {x1 : Int32} {res : Option Nat} (hf : zf_Jx4a65c_elementData_915e3 h q x1 = some res) : zf_is h q 11 = true := Decidable.not_not.mp (zo_n hf).1
set_option maxHeartbeats 4000000 in
set_option maxRecDepth 20000 in
theorem zt_Jx4a65c_elementData_915e3 (l : Launch) (g : zc_G) (h : zc_H) (q : Nat) (x1 : Int32) (res : Option Nat) (hf : zf_Jx4a65c_elementData_915e3 h q x1 = some res) : zc_M l g yJx4a65c_elementData_915e3 cJx4a65c_elementData_915e3 2 (some (.object "java/lang/Object")) zr_Jx4a65c_elementData_915e3 h [va_rf ((some q)), .int (x1)] h (some (va_rf (res))) := by
  refine zc_M.of (by decide) (by simp [lg_sl, zv_cat, zv_ci, zv_cj]) ?_
  intro p e s m below meth c ls S hK hw hr hlk hnm hl
  replace S : CallFix p m c cJx4a65c_elementData_915e3 2 s [va_rf ((some q)), .int (x1)].toArray (zc_ws yJx4a65c_elementData_915e3 cJx4a65c_elementData_915e3 2 (some (.object "java/lang/Object"))) RJx4a65c := S
  have hx := S.1
  have hb := S.2.1
  replace hl : lv_has ls 2 [(0, va_rf ((some q))), (1, .int (x1))] := by simpa [lv_args, zv_cat, zv_ci, zv_cj] using hl
  generalize s.heap = H at hw ⊢
  obtain ⟨locs, hlocs⟩ : ∃ L : List Loc, L = [] := ⟨_, rfl⟩
  rw [← hlocs] at hw ⊢
  unfold zf_Jx4a65c_elementData_915e3 at hf
  obtain ⟨-, hf⟩ := zo_n hf
  refine zl_aload_n hx hb zd_Jx4a65c_elementData_915e3_0 rfl (lv_at hl 0 rfl) ?_
  replace hf := zo_b hf; obtain ⟨v1, ev1, hf⟩ := hf
  obtain ⟨u2, u2e, u2v⟩ := zo_b ev1
  obtain rfl := zv_r_e u2v
  refine zw_get S hK hw zk_11 (k := 1) (by decide) rfl zm_119 (Or.inl rfl) u2e zd_Jx4a65c_elementData_915e3_1 ?_
  refine lv_iload_n hx hb zd_Jx4a65c_elementData_915e3_4 rfl (lv_at hl 1 rfl) ?_
  replace hf := zo_b hf; obtain ⟨a3, na3, hf⟩ := hf
  refine W.eq (g2 := F0 m 5 ls [.int (x1), va_rf ((some a3))]) (by rw [na3] <;> rfl) ?_
  replace hf := zo_b hf; obtain ⟨v4, ev4, hf⟩ := hf
  refine zw_aald (C := "java/lang/Object") S hK hw rfl ev4 zd_Jx4a65c_elementData_915e3_5 ?_
  have hres := Option.some.inj hf; subst hres
  exact zw_aret hx hb hr (by first | exact Or.inl ⟨_, rfl⟩ | exact Or.inr ⟨_, rfl⟩) hlk hw zd_Jx4a65c_elementData_915e3_6 (Nat.le_refl 0) (Nat.le_refl 0)
def zf_Jx4a65c_get_915e3 (h : zc_H) (q : Nat) (x1 : Int32) : Option (Option Nat) :=
  if ¬ zf_is h q 11 = true then none else
  (zf_gi h q 11 2).bind fun v1 =>
  (zf_J15_checkIndex_7cf53 h x1 v1).bind fun r3 =>
  (zf_Jx4a65c_elementData_915e3 h q x1).bind fun r4 =>
  some r4
abbrev zr_Jx4a65c_get_915e3 : Room := { frames := 2, cells := 0, slots := 0, locals := 43 }
theorem zi_Jx4a65c_get_915e3 {h : zc_H} {q : Nat} {x1 : Int32} {res : Option Nat} (hf : zf_Jx4a65c_get_915e3 h q x1 = some res) : zf_is h q 11 = true := Decidable.not_not.mp (zo_n hf).1
set_option maxHeartbeats 4000000 in
set_option maxRecDepth 20000 in
theorem zt_Jx4a65c_get_915e3 (l : Launch) (g : zc_G) (h : zc_H) (q : Nat) (x1 : Int32) (res : Option Nat) (hf : zf_Jx4a65c_get_915e3 h q x1 = some res) : zc_M l g yJx4a65c_get_915e3 cJx4a65c_get_915e3 2 (some (.object "java/lang/Object")) zr_Jx4a65c_get_915e3 h [va_rf ((some q)), .int (x1)] h (some (va_rf (res))) := by
  refine zc_M.of (by decide) (by simp [lg_sl, zv_cat, zv_ci, zv_cj]) ?_
  intro p e s m below meth c ls S hK hw hr hlk hnm hl
  replace S : CallFix p m c cJx4a65c_get_915e3 2 s [va_rf ((some q)), .int (x1)].toArray (zc_ws yJx4a65c_get_915e3 cJx4a65c_get_915e3 2 (some (.object "java/lang/Object"))) RJx4a65c := S
  have hx := S.1
  have hb := S.2.1
  replace hl : lv_has ls 2 [(0, va_rf ((some q))), (1, .int (x1))] := by simpa [lv_args, zv_cat, zv_ci, zv_cj] using hl
  generalize s.heap = H at hw ⊢
  obtain ⟨locs, hlocs⟩ : ∃ L : List Loc, L = [] := ⟨_, rfl⟩
  rw [← hlocs] at hw ⊢
  unfold zf_Jx4a65c_get_915e3 at hf
  obtain ⟨-, hf⟩ := zo_n hf
  refine lv_iload_n hx hb zd_Jx4a65c_get_915e3_0 rfl (lv_at hl 1 rfl) ?_
  refine zl_aload_n hx hb zd_Jx4a65c_get_915e3_1 rfl (lv_at hl 0 rfl) ?_
  replace hf := zo_b hf; obtain ⟨v1, ev1, hf⟩ := hf
  obtain ⟨u2, u2e, u2v⟩ := zo_b ev1
  obtain rfl := zv_i_e u2v
  refine zw_get S hK hw zk_11 (k := 2) (by decide) rfl zm_120 (Or.inl rfl) u2e zd_Jx4a65c_get_915e3_2 ?_
  replace hf := zo_b hf; obtain ⟨r3, er3, hf⟩ := hf
  refine zw_callS (n := 2) (As := [.int (x1), .int (v1)]) (rest := []) S hK hw (zt_J15_checkIndex_7cf53 l g h x1 v1 _ er3) zm_432 zm_433 zq_J15_checkIndex_7cf53 zm_82 (by decide +kernel) ⟨Nat.le_of_ble_eq_true rfl, Nat.le_of_ble_eq_true rfl⟩ rfl hl.1 rfl (by simp [zv_cat, zv_ci, zv_cj]) zd_Jx4a65c_get_915e3_5 ⟨(Nat.le_refl 0), (Nat.le_refl 0)⟩ (fun H locs hw => ?_)
  replace hw : zc_W g h H locs := hw
  refine lv_pop hx hb zd_Jx4a65c_get_915e3_8 rfl ?_
  refine zl_aload_n hx hb zd_Jx4a65c_get_915e3_9 rfl (lv_at hl 0 rfl) ?_
  refine lv_iload_n hx hb zd_Jx4a65c_get_915e3_10 rfl (lv_at hl 1 rfl) ?_
  replace hf := zo_b hf; obtain ⟨r4, er4, hf⟩ := hf
  refine zw_callV (n := 1) (ci := 11) (q := zc_cl[11]) (As := [.int (x1)]) (rest := []) S hK hw (zt_Jx4a65c_elementData_915e3 l g h q x1 _ er4) zm_438 zm_439 zm_440 zq_Jx4a65c_elementData_915e3 zm_72 (by decide +kernel) ⟨Nat.le_of_ble_eq_true rfl, Nat.le_of_ble_eq_true rfl⟩ rfl rfl rfl (zi_Jx4a65c_elementData_915e3 er4) hl.1 rfl (by simp [zv_cat, zv_ci, zv_cj]) zd_Jx4a65c_get_915e3_11 ⟨(Nat.le_refl 0), (Nat.le_refl 0)⟩ (fun H locs hw => ?_)
  replace hw : zc_W g h H locs := hw
  have hres := Option.some.inj hf; subst hres
  exact zw_aret hx hb hr (by first | exact Or.inl ⟨_, rfl⟩ | exact Or.inr ⟨_, rfl⟩) hlk hw zd_Jx4a65c_get_915e3_14 (Nat.le_refl 0) (Nat.le_refl 0)
def zf_J8_hugeLength_7cf53 (h : zc_H) (x0 : Int32) (x1 : Int32) : Option (zc_H × Int32) :=
  if 0 ≤ (x0 + x1) then
    if 2147483639 < (x0 + x1) then
      some (h, (x0 + x1))
    else
    some (h, 2147483639)
  else
  none
abbrev zr_J8_hugeLength_7cf53 : Room := { frames := 0, cells := 0, slots := 0, locals := 0 }
set_option maxHeartbeats 4000000 in
set_option maxRecDepth 20000 in
theorem zt_J8_hugeLength_7cf53 (l : Launch) (g : zc_G) (h : zc_H) (x0 : Int32) (x1 : Int32) (res : zc_H × Int32) (hf : zf_J8_hugeLength_7cf53 h x0 x1 = some res) : zc_M l g yJ8_hugeLength_7cf53 cJ8_hugeLength_7cf53 3 (some .int) zr_J8_hugeLength_7cf53 h [.int (x0), .int (x1)] res.1 (some (.int (res.2))) := by
  refine zc_M.of (by decide) (by simp [lg_sl, zv_cat, zv_ci, zv_cj]) ?_
  intro p e s m below meth c ls S hK hw hr hlk hnm hl
  replace S : CallFix p m c cJ8_hugeLength_7cf53 3 s [.int (x0), .int (x1)].toArray (zc_ws yJ8_hugeLength_7cf53 cJ8_hugeLength_7cf53 3 (some .int)) RJ8 := S
  have hx := S.1
  have hb := S.2.1
  replace hl : lv_has ls 3 [(0, .int (x0)), (1, .int (x1))] := by simpa [lv_args, zv_cat, zv_ci, zv_cj] using hl
  generalize s.heap = H at hw ⊢
  obtain ⟨locs, hlocs⟩ : ∃ L : List Loc, L = [] := ⟨_, rfl⟩
  rw [← hlocs] at hw ⊢
  unfold zf_J8_hugeLength_7cf53 at hf
  refine lv_iload_n hx hb zd_J8_hugeLength_7cf53_0 rfl (lv_at hl 0 rfl) ?_
  refine lv_iload_n hx hb zd_J8_hugeLength_7cf53_1 rfl (lv_at hl 1 rfl) ?_
  refine lv_iadd hx hb zd_J8_hugeLength_7cf53_2 ?_
  refine lv_istore_n (i := 2) (lv' := [(2, .int ((x0 + x1))), (0, .int (x0)), (1, .int (x1))]) hx hb zd_J8_hugeLength_7cf53_3 rfl hl (by decide) rfl (fun ls hl => ?_)
  refine lv_iload_n hx hb zd_J8_hugeLength_7cf53_4 rfl (lv_at hl 0 rfl) ?_
  refine lv_if_ge (tgt := 49) hx hb zd_J8_hugeLength_7cf53_5 (by decide) (fun c1 => ?_) (fun c1 => ?_)
  · replace hf := zo_t c1 hf
    refine lv_iload_n hx hb zd_J8_hugeLength_7cf53_49 rfl (lv_at hl 0 rfl) ?_
    refine lv_ldc (v := 2147483639) hx hb S.2.2.2.1 (S.2.2.2.2 _ (List.mem_cons_of_mem _ zm_571)) zd_J8_hugeLength_7cf53_50 ?_
    refine lv_icmp_gt (tgt := 58) hx hb zd_J8_hugeLength_7cf53_52 (by decide) (fun c2 => ?_) (fun c2 => ?_)
    · replace hf := zo_t c2 hf
      refine lv_iload_n hx hb zd_J8_hugeLength_7cf53_58 rfl (lv_at hl 0 rfl) ?_
      have hres := Option.some.inj hf; subst hres
      exact zw_iret (v := (x0 + x1)) (ty := .int) hx hb hr hlk rfl hw zd_J8_hugeLength_7cf53_59 (by show _ ≤ (0 : Nat); omega) (by show _ ≤ (0 : Nat); omega)
    · replace hf := zo_f c2 hf
      refine lv_ldc (v := 2147483639) hx hb S.2.2.2.1 (S.2.2.2.2 _ (List.mem_cons_of_mem _ zm_571)) zd_J8_hugeLength_7cf53_55 ?_
      have hres := Option.some.inj hf; subst hres
      exact zw_iret (v := 2147483639) (ty := .int) hx hb hr hlk rfl hw zd_J8_hugeLength_7cf53_57 (by show _ ≤ (0 : Nat); omega) (by show _ ≤ (0 : Nat); omega)
  · replace hf := zo_f c1 hf
    cases hf
def zf_J8_newLength_cabcc (h : zc_H) (x0 : Int32) (x1 : Int32) (x2 : Int32) : Option (zc_H × Int32) :=
  let k21 := fun (_ : Unit) =>
    (zf_J8_hugeLength_7cf53 h x0 x1).bind fun r2 =>
    some (r2.1, r2.2)
  if (x0 + (if x1 < x2 then x2 else x1)) ≤ 0 then
    k21 ()
  else
  if 2147483639 < (x0 + (if x1 < x2 then x2 else x1)) then
    k21 ()
  else
  some (h, (x0 + (if x1 < x2 then x2 else x1)))
abbrev zr_J8_newLength_cabcc : Room := { frames := 1, cells := 0, slots := 0, locals := 40 }
set_option maxHeartbeats 4000000 in
set_option maxRecDepth 20000 in
theorem zt_J8_newLength_cabcc (l : Launch) (g : zc_G) (h : zc_H) (x0 : Int32) (x1 : Int32) (x2 : Int32) (res : zc_H × Int32) (hf : zf_J8_newLength_cabcc h x0 x1 x2 = some res) : zc_M l g yJ8_newLength_cabcc cJ8_newLength_cabcc 4 (some .int) zr_J8_newLength_cabcc h [.int (x0), .int (x1), .int (x2)] res.1 (some (.int (res.2))) := by
  refine zc_M.of (by decide) (by simp [lg_sl, zv_cat, zv_ci, zv_cj]) ?_
  intro p e s m below meth c ls S hK hw hr hlk hnm hl
  replace S : CallFix p m c cJ8_newLength_cabcc 4 s [.int (x0), .int (x1), .int (x2)].toArray (zc_ws yJ8_newLength_cabcc cJ8_newLength_cabcc 4 (some .int)) RJ8 := S
  have hx := S.1
  have hb := S.2.1
  replace hl : lv_has ls 4 [(0, .int (x0)), (1, .int (x1)), (2, .int (x2))] := by simpa [lv_args, zv_cat, zv_ci, zv_cj] using hl
  generalize s.heap = H at hw ⊢
  obtain ⟨locs, hlocs⟩ : ∃ L : List Loc, L = [] := ⟨_, rfl⟩
  rw [← hlocs] at hw ⊢
  unfold zf_J8_newLength_cabcc at hf
  refine lv_iload_n hx hb zd_J8_newLength_cabcc_0 rfl (lv_at hl 0 rfl) ?_
  refine lv_iload_n hx hb zd_J8_newLength_cabcc_1 rfl (lv_at hl 1 rfl) ?_
  refine lv_iload_n hx hb zd_J8_newLength_cabcc_2 rfl (lv_at hl 2 rfl) ?_
  refine va_mmax hx hb (S.2.2.1.trans hl.1.symm) S.2.2.2.1 (S.2.2.2.2 _ (List.mem_cons_of_mem _ zm_568)) (S.2.2.2.2 _ (List.mem_cons_of_mem _ zm_569)) (S.2.2.2.2 _ (List.mem_cons_of_mem _ zm_85)) (S.2.2.2.2 _ (List.mem_cons_of_mem _ zm_570)) (Nat.le_of_ble_eq_true rfl) (by simp [zv_cat, zv_ci, zv_cj, zr_J8_newLength_cabcc]) (by show _ ≤ (0 : Nat); omega) (by show _ ≤ (0 : Nat); omega) zd_J8_newLength_cabcc_3 ?_
  refine lv_iadd hx hb zd_J8_newLength_cabcc_6 ?_
  refine lv_istore_n (i := 3) (lv' := [(3, .int ((x0 + (if x1 < x2 then x2 else x1)))), (0, .int (x0)), (1, .int (x1)), (2, .int (x2))]) hx hb zd_J8_newLength_cabcc_7 rfl hl (by decide) rfl (fun ls hl => ?_)
  refine lv_iconst (v := 0) hx hb zd_J8_newLength_cabcc_8 (by decide) ?_
  refine lv_iload_n hx hb zd_J8_newLength_cabcc_9 rfl (lv_at hl 0 rfl) ?_
  have k21h : ∀ (_ : Unit) (H : Heap) (locs : List Loc) (ls : Array Slot), (
      (zf_J8_hugeLength_7cf53 h x0 x1).bind fun r2 =>
      some (r2.1, r2.2)
      ) = some res → zc_W g h H locs → lv_has ls 4 [(0, .int (x0)), (1, .int (x1))] → W p l e zr_J8_newLength_cabcc s m [.int (x0), .int (x1), .int (x2)].toArray below meth c H locs 0 0 (zc_Q g below zr_J8_newLength_cabcc (some (.int (res.2))) res.1 [.int (x0), .int (x1), .int (x2)] s) (F0 m 21 ls []) := by
    intro _ H locs ls hf hw hl
    refine lv_iload_n hx hb zd_J8_newLength_cabcc_21 rfl (lv_at hl 0 rfl) ?_
    refine lv_iload_n hx hb zd_J8_newLength_cabcc_22 rfl (lv_at hl 1 rfl) ?_
    replace hf := zo_b hf; obtain ⟨r2, er2, hf⟩ := hf
    refine zw_callS (n := 2) (As := [.int (x0), .int (x1)]) (rest := []) S hK hw (zt_J8_hugeLength_7cf53 l g h x0 x1 _ er2) zm_572 zm_573 zq_J8_hugeLength_7cf53 zm_86 (by decide +kernel) ⟨Nat.le_of_ble_eq_true rfl, Nat.le_of_ble_eq_true rfl⟩ rfl hl.1 rfl (by simp [zv_cat, zv_ci, zv_cj]) zd_J8_newLength_cabcc_23 ⟨(by show 0 + (0 : Nat) ≤ (0 : Nat); omega), (by show 0 + (0 : Nat) ≤ (0 : Nat); omega)⟩ (fun H locs hw => ?_)
    replace hw : zc_W g r2.1 H locs := hw
    refine W.widen (k := (0 + 0)) (n := (0 + 0)) (Nat.le_refl _) (Nat.le_refl _) ?_
    have hres := Option.some.inj hf; subst hres
    exact zw_iret (v := r2.2) (ty := .int) hx hb hr hlk rfl hw zd_J8_newLength_cabcc_26 (by show _ ≤ (0 : Nat); omega) (by show _ ≤ (0 : Nat); omega)
  refine lv_icmp_ge (tgt := 21) hx hb zd_J8_newLength_cabcc_10 (by decide) (fun c1 => ?_) (fun c1 => ?_)
  · replace hf := zo_t c1 hf
    exact k21h () _ _ _ hf hw (lv_sub hl [1, 2] rfl)
  · replace hf := zo_f c1 hf
    refine lv_iload_n hx hb zd_J8_newLength_cabcc_13 rfl (lv_at hl 0 rfl) ?_
    refine lv_ldc (v := 2147483639) hx hb S.2.2.2.1 (S.2.2.2.2 _ (List.mem_cons_of_mem _ zm_571)) zd_J8_newLength_cabcc_14 ?_
    refine lv_icmp_gt (tgt := 21) hx hb zd_J8_newLength_cabcc_16 (by decide) (fun c3 => ?_) (fun c3 => ?_)
    · replace hf := zo_t c3 hf
      exact k21h () _ _ _ hf hw (lv_sub hl [1, 2] rfl)
    · replace hf := zo_f c3 hf
      refine lv_iload_n hx hb zd_J8_newLength_cabcc_19 rfl (lv_at hl 0 rfl) ?_
      have hres := Option.some.inj hf; subst hres
      exact zw_iret (v := (x0 + (if x1 < x2 then x2 else x1))) (ty := .int) hx hb hr hlk rfl hw zd_J8_newLength_cabcc_20 (by show _ ≤ (0 : Nat); omega) (by show _ ≤ (0 : Nat); omega)
def zf_Jx4a65c_grow_92f84 (h : zc_H) (q : Nat) (x1 : Int32) : Option (zc_H × Option Nat) :=
  if ¬ zf_is h q 11 = true then none else
  (zf_gr h q 11 1).bind fun v1 =>
  v1.bind fun a3 =>
  (zf_len h a3).bind fun v4 =>
  let k20 := fun (_ : Unit) =>
    (zf_J8_newLength_cabcc h v4 (x1 - v4) (v4 >>> (1 &&& 31))).bind fun r6 =>
    (zf_gr r6.1 q 11 1).bind fun v7 =>
    (zf_J7_copyOf_1904c r6.1 v7 r6.2).bind fun r9 =>
    (zf_p r9.1 q 11 1 (va_rf (r9.2))).bind fun h10 =>
    some (h10, r9.2)
  if 0 < v4 then
    k20 ()
  else
  (zf_gr h q 11 1).bind fun v11 =>
  if v11 = (some h.2.2) then
    if (if 10 < x1 then x1 else 10) < 0 ∨ 40 < ((if 10 < x1 then x1 else 10) : Int32).toNatClampNeg then none else
    (some (zf_new h (.inl (4, ((if 10 < x1 then x1 else 10) : Int32).toNatClampNeg, .inr (.inr (.inr (.inr (fun _ => none)))))))).bind fun h14 =>
    (zf_p h14 q 11 1 (va_rf ((some h.2.1)))).bind fun h16 =>
    some (h16, (some h.2.1))
  else
  k20 ()
abbrev zr_Jx4a65c_grow_92f84 : Room := { frames := 4, cells := 1, slots := 40, locals := 141 }
theorem zi_Jx4a65c_grow_92f84 {h : zc_H} {q : Nat} {x1 : Int32} {res : zc_H × Option Nat} (hf : zf_Jx4a65c_grow_92f84 h q x1 = some res) : zf_is h q 11 = true := Decidable.not_not.mp (zo_n hf).1
set_option maxHeartbeats 4000000 in
set_option maxRecDepth 20000 in
theorem zt_Jx4a65c_grow_92f84 (l : Launch) (g : zc_G) (h : zc_H) (q : Nat) (x1 : Int32) (res : zc_H × Option Nat) (hf : zf_Jx4a65c_grow_92f84 h q x1 = some res) : zc_M l g yJx4a65c_grow_92f84 cJx4a65c_grow_92f84 4 (some (.array (.object "java/lang/Object"))) zr_Jx4a65c_grow_92f84 h [va_rf ((some q)), .int (x1)] res.1 (some (va_rf (res.2))) := by
  refine zc_M.of (by decide) (by simp [lg_sl, zv_cat, zv_ci, zv_cj]) ?_
  intro p e s m below meth c ls S hK hw hr hlk hnm hl
  replace S : CallFix p m c cJx4a65c_grow_92f84 4 s [va_rf ((some q)), .int (x1)].toArray (zc_ws yJx4a65c_grow_92f84 cJx4a65c_grow_92f84 4 (some (.array (.object "java/lang/Object")))) RJx4a65c := S
  have hx := S.1
  have hb := S.2.1
  replace hl : lv_has ls 4 [(0, va_rf ((some q))), (1, .int (x1))] := by simpa [lv_args, zv_cat, zv_ci, zv_cj] using hl
  generalize s.heap = H at hw ⊢
  obtain ⟨locs, hlocs⟩ : ∃ L : List Loc, L = [] := ⟨_, rfl⟩
  rw [← hlocs] at hw ⊢
  unfold zf_Jx4a65c_grow_92f84 at hf
  obtain ⟨-, hf⟩ := zo_n hf
  refine zl_aload_n hx hb zd_Jx4a65c_grow_92f84_0 rfl (lv_at hl 0 rfl) ?_
  replace hf := zo_b hf; obtain ⟨v1, ev1, hf⟩ := hf
  obtain ⟨u2, u2e, u2v⟩ := zo_b ev1
  obtain rfl := zv_r_e u2v
  refine zw_get S hK hw zk_11 (k := 1) (by decide) rfl zm_119 (Or.inl rfl) u2e zd_Jx4a65c_grow_92f84_1 ?_
  replace hf := zo_b hf; obtain ⟨a3, na3, hf⟩ := hf
  refine W.eq (g2 := F0 m 4 ls [va_rf ((some a3))]) (by rw [na3] <;> rfl) ?_
  replace hf := zo_b hf; obtain ⟨v4, ev4, hf⟩ := hf
  refine zw_alen S hK hw ev4 zd_Jx4a65c_grow_92f84_4 ?_
  refine lv_istore_n (i := 2) (lv' := [(2, .int (v4)), (0, va_rf ((some q))), (1, .int (x1))]) hx hb zd_Jx4a65c_grow_92f84_5 rfl hl (by decide) rfl (fun ls hl => ?_)
  refine lv_iload_n hx hb zd_Jx4a65c_grow_92f84_6 rfl (lv_at hl 0 rfl) ?_
  have k20h : ∀ (_ : Unit) (H : Heap) (locs : List Loc) (ls : Array Slot), (
      (zf_J8_newLength_cabcc h v4 (x1 - v4) (v4 >>> (1 &&& 31))).bind fun r6 =>
      (zf_gr r6.1 q 11 1).bind fun v7 =>
      (zf_J7_copyOf_1904c r6.1 v7 r6.2).bind fun r9 =>
      (zf_p r9.1 q 11 1 (va_rf (r9.2))).bind fun h10 =>
      some (h10, r9.2)
      ) = some res → zc_W g h H locs → lv_has ls 4 [(0, va_rf ((some q))), (1, .int (x1)), (2, .int (v4))] → W p l e zr_Jx4a65c_grow_92f84 s m [va_rf ((some q)), .int (x1)].toArray below meth c H locs 0 0 (zc_Q g below zr_Jx4a65c_grow_92f84 (some (va_rf (res.2))) res.1 [va_rf ((some q)), .int (x1)] s) (F0 m 20 ls []) := by
    intro _ H locs ls hf hw hl
    refine lv_iload_n hx hb zd_Jx4a65c_grow_92f84_20 rfl (lv_at hl 2 rfl) ?_
    refine lv_iload_n hx hb zd_Jx4a65c_grow_92f84_21 rfl (lv_at hl 1 rfl) ?_
    refine lv_iload_n hx hb zd_Jx4a65c_grow_92f84_22 rfl (lv_at hl 2 rfl) ?_
    refine lv_isub hx hb zd_Jx4a65c_grow_92f84_23 ?_
    refine lv_iload_n hx hb zd_Jx4a65c_grow_92f84_24 rfl (lv_at hl 2 rfl) ?_
    refine lv_iconst (v := 1) hx hb zd_Jx4a65c_grow_92f84_25 (by decide) ?_
    refine lv_ishr hx hb zd_Jx4a65c_grow_92f84_26 ?_
    replace hf := zo_b hf; obtain ⟨r6, er6, hf⟩ := hf
    refine zw_callS (n := 3) (As := [.int (v4), .int ((x1 - v4)), .int ((v4 >>> (1 &&& 31)))]) (rest := []) S hK hw (zt_J8_newLength_cabcc l g h v4 (x1 - v4) (v4 >>> (1 &&& 31)) _ er6) zm_565 zm_566 zq_J8_newLength_cabcc zm_86 (by decide +kernel) ⟨Nat.le_of_ble_eq_true rfl, Nat.le_of_ble_eq_true rfl⟩ rfl hl.1 rfl (by simp [zv_cat, zv_ci, zv_cj]) zd_Jx4a65c_grow_92f84_27 ⟨(by show 0 + (0 : Nat) ≤ (1 : Nat); omega), (by show 0 + (0 : Nat) ≤ (40 : Nat); omega)⟩ (fun H locs hw => ?_)
    replace hw : zc_W g r6.1 H locs := hw
    refine W.widen (k := (0 + 0)) (n := (0 + 0)) (Nat.le_refl _) (Nat.le_refl _) ?_
    refine lv_istore_n (i := 3) (lv' := [(3, .int (r6.2)), (0, va_rf ((some q))), (1, .int (x1)), (2, .int (v4))]) hx hb zd_Jx4a65c_grow_92f84_30 rfl hl (by decide) rfl (fun ls hl => ?_)
    refine zl_aload_n hx hb zd_Jx4a65c_grow_92f84_31 rfl (lv_at hl 1 rfl) ?_
    refine zl_aload_n hx hb zd_Jx4a65c_grow_92f84_32 rfl (lv_at hl 1 rfl) ?_
    replace hf := zo_b hf; obtain ⟨v7, ev7, hf⟩ := hf
    obtain ⟨u8, u8e, u8v⟩ := zo_b ev7
    obtain rfl := zv_r_e u8v
    refine zw_get S hK hw zk_11 (k := 1) (by decide) rfl zm_119 (Or.inl rfl) u8e zd_Jx4a65c_grow_92f84_33 ?_
    refine lv_iload_n hx hb zd_Jx4a65c_grow_92f84_36 rfl (lv_at hl 0 rfl) ?_
    replace hf := zo_b hf; obtain ⟨r9, er9, hf⟩ := hf
    refine zw_callS (n := 2) (As := [va_rf (v7), .int (r6.2)]) (rest := [va_rf ((some q))]) S hK hw (zt_J7_copyOf_1904c l g r6.1 v7 r6.2 _ er9) zm_575 zm_576 zq_J7_copyOf_1904c zm_80 (by decide +kernel) ⟨Nat.le_of_ble_eq_true rfl, Nat.le_of_ble_eq_true rfl⟩ rfl hl.1 rfl (by simp [zv_cat, zv_ci, zv_cj]) zd_Jx4a65c_grow_92f84_37 ⟨(by show (0 + 0) + (1 : Nat) ≤ (1 : Nat); omega), (by show (0 + 0) + (40 : Nat) ≤ (40 : Nat); omega)⟩ (fun H locs hw => ?_)
    replace hw : zc_W g r9.1 H locs := hw
    refine W.widen (k := ((0 + 0) + 1)) (n := ((0 + 0) + 40)) (Nat.le_refl _) (Nat.le_refl _) ?_
    refine lv_dup_x1 hx hb zd_Jx4a65c_grow_92f84_40 (zv_cat _) rfl ?_
    replace hf := zo_b hf; obtain ⟨h10, eh10, hf⟩ := hf
    refine zw_put S hK hw zk_11 (k := 1) (by decide) rfl zm_119 (Or.inl rfl) eh10 (ty := (.array (.object "java/lang/Object"))) (by decide +kernel) (zv_rnA _ _) (zv_rfA _ _) zd_Jx4a65c_grow_92f84_41 (fun H locs hw => ?_)
    have hres := Option.some.inj hf; subst hres
    exact zw_aret hx hb hr (by first | exact Or.inl ⟨_, rfl⟩ | exact Or.inr ⟨_, rfl⟩) hlk hw zd_Jx4a65c_grow_92f84_44 (by show _ ≤ (1 : Nat); omega) (by show _ ≤ (40 : Nat); omega)
  refine lv_if_gt (tgt := 20) hx hb zd_Jx4a65c_grow_92f84_7 (by decide) (fun c5 => ?_) (fun c5 => ?_)
  · replace hf := zo_t c5 hf
    exact k20h () _ _ _ hf hw (lv_sub hl [1, 2, 0] rfl)
  · replace hf := zo_f c5 hf
    refine zl_aload_n hx hb zd_Jx4a65c_grow_92f84_10 rfl (lv_at hl 1 rfl) ?_
    replace hf := zo_b hf; obtain ⟨v11, ev11, hf⟩ := hf
    obtain ⟨u12, u12e, u12v⟩ := zo_b ev11
    obtain rfl := zv_r_e u12v
    refine zw_get S hK hw zk_11 (k := 1) (by decide) rfl zm_119 (Or.inl rfl) u12e zd_Jx4a65c_grow_92f84_11 ?_
    refine zw_gets (ref := "") S hw hK.2.2.2.2.2.2.1 zm_117 zd_Jx4a65c_grow_92f84_14 ?_
    refine W.eq (g2 := F0 m 17 ls (va_rf (some h.2.2) :: [va_rf (v11)])) (by rw [hw.2.2.2.2.1.2]; rfl) ?_
    refine lv_acmp_eq (tgt := 45) hx hb zd_Jx4a65c_grow_92f84_17 (by decide) (fun c13 => ?_) (fun c13 => ?_)
    · replace hf := zo_t c13 hf
      refine zl_aload_n hx hb zd_Jx4a65c_grow_92f84_45 rfl (lv_at hl 1 rfl) ?_
      refine lv_bipush (v := 10) hx hb zd_Jx4a65c_grow_92f84_46 (by decide) ?_
      refine lv_iload_n hx hb zd_Jx4a65c_grow_92f84_48 rfl (lv_at hl 2 rfl) ?_
      refine va_mmax hx hb (S.2.2.1.trans hl.1.symm) S.2.2.2.1 (S.2.2.2.2 _ (List.mem_cons_of_mem _ zm_600)) (S.2.2.2.2 _ (List.mem_cons_of_mem _ zm_569)) (S.2.2.2.2 _ (List.mem_cons_of_mem _ zm_85)) (S.2.2.2.2 _ (List.mem_cons_of_mem _ zm_570)) (Nat.le_of_ble_eq_true rfl) (by simp [zv_cat, zv_ci, zv_cj, zr_Jx4a65c_grow_92f84]) (by show _ ≤ (1 : Nat); omega) (by show _ ≤ (40 : Nat); omega) zd_Jx4a65c_grow_92f84_49 ?_
      replace hf := zo_n hf; obtain ⟨z15, hf⟩ := hf
      replace hf := zo_b hf; obtain ⟨h14, eh14, hf⟩ := hf
      refine zw_newq (t := 4) (C := "java/lang/Object") (N := ((if 10 < x1 then x1 else 10) : Int32).toNatClampNeg) (K := 40) S hK hw zm_601 hK.2.2.2.2.2.2.2.2.2.1 rfl (Nat.le_of_ble_eq_true rfl) (fun z => z15 (Or.inl z)) rfl (Nat.not_lt.mp fun z => z15 (Or.inr z)) (by decide) (by show _ ≤ (1 : Nat); omega) (by show _ ≤ (40 : Nat); omega) zd_Jx4a65c_grow_92f84_52 (fun H hw => ?_)
      replace hw : zc_W g h14 H locs := (Option.some.inj eh14) ▸ hw
      refine lv_dup_x1 hx hb zd_Jx4a65c_grow_92f84_55 rfl rfl ?_
      replace hf := zo_b hf; obtain ⟨h16, eh16, hf⟩ := hf
      refine zw_put S hK hw zk_11 (k := 1) (by decide) rfl zm_119 (Or.inl rfl) eh16 (ty := (.array (.object "java/lang/Object"))) (by decide +kernel) (zv_rnA _ _) (zv_rfA _ _) zd_Jx4a65c_grow_92f84_56 (fun H locs hw => ?_)
      have hres := Option.some.inj hf; subst hres
      exact zw_aret hx hb hr (by first | exact Or.inl ⟨_, rfl⟩ | exact Or.inr ⟨_, rfl⟩) hlk hw zd_Jx4a65c_grow_92f84_59 (by show _ ≤ (1 : Nat); omega) (by show _ ≤ (40 : Nat); omega)
    · replace hf := zo_f c13 hf
      exact k20h () _ _ _ hf hw (lv_sub hl [1, 2, 0] rfl)
def zf_Jx4a65c_grow_d5877 (h : zc_H) (q : Nat) : Option (zc_H × Option Nat) :=
  if ¬ zf_is h q 11 = true then none else
  (zf_gi h q 11 2).bind fun v1 =>
  (zf_Jx4a65c_grow_92f84 h q (v1 + 1)).bind fun r3 =>
  some (r3.1, r3.2)
abbrev zr_Jx4a65c_grow_d5877 : Room := { frames := 5, cells := 1, slots := 40, locals := 164 }
theorem zi_Jx4a65c_grow_d5877 {h : zc_H} {q : Nat} {res : zc_H × Option Nat} (hf : zf_Jx4a65c_grow_d5877 h q = some res) : zf_is h q 11 = true := Decidable.not_not.mp (zo_n hf).1
set_option maxHeartbeats 4000000 in
set_option maxRecDepth 20000 in
theorem zt_Jx4a65c_grow_d5877 (l : Launch) (g : zc_G) (h : zc_H) (q : Nat) (res : zc_H × Option Nat) (hf : zf_Jx4a65c_grow_d5877 h q = some res) : zc_M l g yJx4a65c_grow_d5877 cJx4a65c_grow_d5877 1 (some (.array (.object "java/lang/Object"))) zr_Jx4a65c_grow_d5877 h [va_rf ((some q))] res.1 (some (va_rf (res.2))) := by
  refine zc_M.of (by decide) (by simp [lg_sl, zv_cat, zv_ci, zv_cj]) ?_
  intro p e s m below meth c ls S hK hw hr hlk hnm hl
  replace S : CallFix p m c cJx4a65c_grow_d5877 1 s [va_rf ((some q))].toArray (zc_ws yJx4a65c_grow_d5877 cJx4a65c_grow_d5877 1 (some (.array (.object "java/lang/Object")))) RJx4a65c := S
  have hx := S.1
  have hb := S.2.1
  replace hl : lv_has ls 1 [(0, va_rf ((some q)))] := by simpa [lv_args, zv_cat, zv_ci, zv_cj] using hl
  generalize s.heap = H at hw ⊢
  obtain ⟨locs, hlocs⟩ : ∃ L : List Loc, L = [] := ⟨_, rfl⟩
  rw [← hlocs] at hw ⊢
  unfold zf_Jx4a65c_grow_d5877 at hf
  obtain ⟨-, hf⟩ := zo_n hf
  refine zl_aload_n hx hb zd_Jx4a65c_grow_d5877_0 rfl (lv_at hl 0 rfl) ?_
  refine zl_aload_n hx hb zd_Jx4a65c_grow_d5877_1 rfl (lv_at hl 0 rfl) ?_
  replace hf := zo_b hf; obtain ⟨v1, ev1, hf⟩ := hf
  obtain ⟨u2, u2e, u2v⟩ := zo_b ev1
  obtain rfl := zv_i_e u2v
  refine zw_get S hK hw zk_11 (k := 2) (by decide) rfl zm_120 (Or.inl rfl) u2e zd_Jx4a65c_grow_d5877_2 ?_
  refine lv_iconst (v := 1) hx hb zd_Jx4a65c_grow_d5877_5 (by decide) ?_
  refine lv_iadd hx hb zd_Jx4a65c_grow_d5877_6 ?_
  replace hf := zo_b hf; obtain ⟨r3, er3, hf⟩ := hf
  refine zw_callV (n := 1) (ci := 11) (q := zc_cl[11]) (As := [.int ((v1 + 1))]) (rest := []) S hK hw (zt_Jx4a65c_grow_92f84 l g h q (v1 + 1) _ er3) zm_561 zm_563 zm_6 zq_Jx4a65c_grow_92f84 zm_72 (by decide +kernel) ⟨Nat.le_of_ble_eq_true rfl, Nat.le_of_ble_eq_true rfl⟩ rfl rfl rfl (zi_Jx4a65c_grow_92f84 er3) hl.1 rfl (by simp [zv_cat, zv_ci, zv_cj]) zd_Jx4a65c_grow_d5877_7 ⟨(by show 0 + (1 : Nat) ≤ (1 : Nat); omega), (by show 0 + (40 : Nat) ≤ (40 : Nat); omega)⟩ (fun H locs hw => ?_)
  replace hw : zc_W g r3.1 H locs := hw
  refine W.widen (k := (0 + 1)) (n := (0 + 40)) (Nat.le_refl _) (Nat.le_refl _) ?_
  have hres := Option.some.inj hf; subst hres
  exact zw_aret hx hb hr (by first | exact Or.inl ⟨_, rfl⟩ | exact Or.inr ⟨_, rfl⟩) hlk hw zd_Jx4a65c_grow_d5877_10 (by show _ ≤ (1 : Nat); omega) (by show _ ≤ (40 : Nat); omega)
def zf_Jx4a65c_add_72be8 (h : zc_H) (q : Nat) (x1 : Option Nat) (x2 : Option Nat) (x3 : Int32) : Option (zc_H) :=
  if ¬ zf_is h q 11 = true then none else
  x2.bind fun a1 =>
  (zf_len h a1).bind fun v2 =>
  if x3 = v2 then
    (zf_Jx4a65c_grow_d5877 h q).bind fun r7 =>
    r7.2.bind fun a8 =>
    x1.bind fun a9 =>
    (zf_sO r7.1 a8 x3 a9).bind fun h10 =>
    (zf_p h10 q 11 2 (.int ((x3 + 1)))).bind fun h11 =>
    some h11
  else
  x1.bind fun a4 =>
  (zf_sO h a1 x3 a4).bind fun h5 =>
  (zf_p h5 q 11 2 (.int ((x3 + 1)))).bind fun h6 =>
  some h6
abbrev zr_Jx4a65c_add_72be8 : Room := { frames := 6, cells := 1, slots := 40, locals := 184 }
theorem zi_Jx4a65c_add_72be8 {h : zc_H} {q : Nat} {x1 : Option Nat} {x2 : Option Nat} {x3 : Int32} {res : zc_H} (hf : zf_Jx4a65c_add_72be8 h q x1 x2 x3 = some res) : zf_is h q 11 = true := Decidable.not_not.mp (zo_n hf).1
set_option maxHeartbeats 4000000 in
set_option maxRecDepth 20000 in
theorem zt_Jx4a65c_add_72be8 (l : Launch) (g : zc_G) (h : zc_H) (q : Nat) (x1 : Option Nat) (x2 : Option Nat) (x3 : Int32) (res : zc_H) (hf : zf_Jx4a65c_add_72be8 h q x1 x2 x3 = some res) : zc_M l g yJx4a65c_add_72be8 cJx4a65c_add_72be8 4 none zr_Jx4a65c_add_72be8 h [va_rf ((some q)), va_rf (x1), va_rf (x2), .int (x3)] res none := by
  refine zc_M.of (by decide) (by simp [lg_sl, zv_cat, zv_ci, zv_cj]) ?_
  intro p e s m below meth c ls S hK hw hr hlk hnm hl
  replace S : CallFix p m c cJx4a65c_add_72be8 4 s [va_rf ((some q)), va_rf (x1), va_rf (x2), .int (x3)].toArray (zc_ws yJx4a65c_add_72be8 cJx4a65c_add_72be8 4 none) RJx4a65c := S
  have hx := S.1
  have hb := S.2.1
  replace hl : lv_has ls 4 [(0, va_rf ((some q))), (1, va_rf (x1)), (2, va_rf (x2)), (3, .int (x3))] := by simpa [lv_args, zv_cat, zv_ci, zv_cj] using hl
  generalize s.heap = H at hw ⊢
  obtain ⟨locs, hlocs⟩ : ∃ L : List Loc, L = [] := ⟨_, rfl⟩
  rw [← hlocs] at hw ⊢
  unfold zf_Jx4a65c_add_72be8 at hf
  obtain ⟨-, hf⟩ := zo_n hf
  refine lv_iload_n hx hb zd_Jx4a65c_add_72be8_0 rfl (lv_at hl 3 rfl) ?_
  refine zl_aload_n hx hb zd_Jx4a65c_add_72be8_1 rfl (lv_at hl 2 rfl) ?_
  replace hf := zo_b hf; obtain ⟨a1, na1, hf⟩ := hf
  refine W.eq (g2 := F0 m 2 ls [va_rf ((some a1)), .int (x3)]) (by rw [na1] <;> rfl) ?_
  replace hf := zo_b hf; obtain ⟨v2, ev2, hf⟩ := hf
  refine zw_alen S hK hw ev2 zd_Jx4a65c_add_72be8_2 ?_
  refine lv_icmp_ne (tgt := 11) hx hb zd_Jx4a65c_add_72be8_3 (by decide) (fun c3 => ?_) (fun c3 => ?_)
  · replace hf := zo_f c3 hf
    refine zl_aload_n hx hb zd_Jx4a65c_add_72be8_11 rfl (lv_at hl 2 rfl) ?_
    refine lv_iload_n hx hb zd_Jx4a65c_add_72be8_12 rfl (lv_at hl 3 rfl) ?_
    refine zl_aload_n hx hb zd_Jx4a65c_add_72be8_13 rfl (lv_at hl 1 rfl) ?_
    refine W.eq (g2 := F0 m 14 ls [va_rf (x1), .int (x3), va_rf ((some a1))]) (by rw [na1] <;> rfl) ?_
    replace hf := zo_b hf; obtain ⟨a4, na4, hf⟩ := hf
    refine W.eq (g2 := F0 m 14 ls [va_rf ((some a4)), .int (x3), va_rf ((some a1))]) (by rw [na4] <;> rfl) ?_
    replace hf := zo_b hf; obtain ⟨h5, eh5, hf⟩ := hf
    refine zw_aastP S hK hw eh5 zd_Jx4a65c_add_72be8_14 (fun H locs hw => ?_)
    refine zl_aload_n hx hb zd_Jx4a65c_add_72be8_15 rfl (lv_at hl 0 rfl) ?_
    refine lv_iload_n hx hb zd_Jx4a65c_add_72be8_16 rfl (lv_at hl 3 rfl) ?_
    refine lv_iconst (v := 1) hx hb zd_Jx4a65c_add_72be8_17 (by decide) ?_
    refine lv_iadd hx hb zd_Jx4a65c_add_72be8_18 ?_
    replace hf := zo_b hf; obtain ⟨h6, eh6, hf⟩ := hf
    refine zw_put S hK hw zk_11 (k := 2) (by decide) rfl zm_120 (Or.inl rfl) eh6 (ty := .int) (by decide +kernel) rfl rfl zd_Jx4a65c_add_72be8_19 (fun H locs hw => ?_)
    have hres := Option.some.inj hf; subst hres
    exact zw_vret hx hb hr hlk hw zd_Jx4a65c_add_72be8_22 (by show _ ≤ (1 : Nat); omega) (by show _ ≤ (40 : Nat); omega)
  · replace hf := zo_t c3 hf
    refine zl_aload_n hx hb zd_Jx4a65c_add_72be8_6 rfl (lv_at hl 0 rfl) ?_
    replace hf := zo_b hf; obtain ⟨r7, er7, hf⟩ := hf
    refine zw_callV (n := 0) (ci := 11) (q := zc_cl[11]) (As := []) (rest := []) S hK hw (zt_Jx4a65c_grow_d5877 l g h q _ er7) zm_557 zm_559 zm_5 zq_Jx4a65c_grow_d5877 zm_72 (by decide +kernel) ⟨Nat.le_of_ble_eq_true rfl, Nat.le_of_ble_eq_true rfl⟩ rfl rfl rfl (zi_Jx4a65c_grow_d5877 er7) hl.1 rfl (by simp [zv_cat, zv_ci, zv_cj]) zd_Jx4a65c_add_72be8_7 ⟨(by show 0 + (1 : Nat) ≤ (1 : Nat); omega), (by show 0 + (40 : Nat) ≤ (40 : Nat); omega)⟩ (fun H locs hw => ?_)
    replace hw : zc_W g r7.1 H locs := hw
    refine W.widen (k := (0 + 1)) (n := (0 + 40)) (Nat.le_refl _) (Nat.le_refl _) ?_
    refine zl_astore_n (i := 2) (lv' := [(2, va_rf (r7.2)), (0, va_rf ((some q))), (1, va_rf (x1)), (3, .int (x3))]) hx hb zd_Jx4a65c_add_72be8_10 rfl hl (by decide) (by simp [List.filter, zv_cat, zv_ci, zv_cj]) (fun ls hl => ?_)
    refine zl_aload_n hx hb zd_Jx4a65c_add_72be8_11 rfl (lv_at hl 0 rfl) ?_
    refine lv_iload_n hx hb zd_Jx4a65c_add_72be8_12 rfl (lv_at hl 3 rfl) ?_
    refine zl_aload_n hx hb zd_Jx4a65c_add_72be8_13 rfl (lv_at hl 2 rfl) ?_
    replace hf := zo_b hf; obtain ⟨a8, na8, hf⟩ := hf
    refine W.eq (g2 := F0 m 14 ls [va_rf (x1), .int (x3), va_rf ((some a8))]) (by rw [na8] <;> rfl) ?_
    replace hf := zo_b hf; obtain ⟨a9, na9, hf⟩ := hf
    refine W.eq (g2 := F0 m 14 ls [va_rf ((some a9)), .int (x3), va_rf ((some a8))]) (by rw [na9] <;> rfl) ?_
    replace hf := zo_b hf; obtain ⟨h10, eh10, hf⟩ := hf
    refine zw_aastP S hK hw eh10 zd_Jx4a65c_add_72be8_14 (fun H locs hw => ?_)
    refine zl_aload_n hx hb zd_Jx4a65c_add_72be8_15 rfl (lv_at hl 1 rfl) ?_
    refine lv_iload_n hx hb zd_Jx4a65c_add_72be8_16 rfl (lv_at hl 3 rfl) ?_
    refine lv_iconst (v := 1) hx hb zd_Jx4a65c_add_72be8_17 (by decide) ?_
    refine lv_iadd hx hb zd_Jx4a65c_add_72be8_18 ?_
    replace hf := zo_b hf; obtain ⟨h11, eh11, hf⟩ := hf
    refine zw_put S hK hw zk_11 (k := 2) (by decide) rfl zm_120 (Or.inl rfl) eh11 (ty := .int) (by decide +kernel) rfl rfl zd_Jx4a65c_add_72be8_19 (fun H locs hw => ?_)
    have hres := Option.some.inj hf; subst hres
    exact zw_vret hx hb hr hlk hw zd_Jx4a65c_add_72be8_22 (by show _ ≤ (1 : Nat); omega) (by show _ ≤ (40 : Nat); omega)
def zf_Jx4a65c_add_9ea2d (h : zc_H) (q : Nat) (x1 : Option Nat) : Option (zc_H × Int32) :=
  if ¬ zf_is h q 11 = true then none else
  (zf_gi h q 11 0).bind fun v1 =>
  (zf_p h q 11 0 (.int ((v1 + 1)))).bind fun h3 =>
  (zf_gr h3 q 11 1).bind fun v4 =>
  (zf_gi h3 q 11 2).bind fun v6 =>
  (zf_Jx4a65c_add_72be8 h3 q x1 v4 v6).bind fun r8 =>
  some (r8, 1)
abbrev zr_Jx4a65c_add_9ea2d : Room := { frames := 7, cells := 1, slots := 40, locals := 207 }
theorem zi_Jx4a65c_add_9ea2d {h : zc_H} {q : Nat} {x1 : Option Nat} {res : zc_H × Int32} (hf : zf_Jx4a65c_add_9ea2d h q x1 = some res) : zf_is h q 11 = true := Decidable.not_not.mp (zo_n hf).1
set_option maxHeartbeats 4000000 in
set_option maxRecDepth 20000 in
theorem zt_Jx4a65c_add_9ea2d (l : Launch) (g : zc_G) (h : zc_H) (q : Nat) (x1 : Option Nat) (res : zc_H × Int32) (hf : zf_Jx4a65c_add_9ea2d h q x1 = some res) : zc_M l g yJx4a65c_add_9ea2d cJx4a65c_add_9ea2d 2 (some .boolean) zr_Jx4a65c_add_9ea2d h [va_rf ((some q)), va_rf (x1)] res.1 (some (.int (res.2))) := by
  refine zc_M.of (by decide) (by simp [lg_sl, zv_cat, zv_ci, zv_cj]) ?_
  intro p e s m below meth c ls S hK hw hr hlk hnm hl
  replace S : CallFix p m c cJx4a65c_add_9ea2d 2 s [va_rf ((some q)), va_rf (x1)].toArray (zc_ws yJx4a65c_add_9ea2d cJx4a65c_add_9ea2d 2 (some .boolean)) RJx4a65c := S
  have hx := S.1
  have hb := S.2.1
  replace hl : lv_has ls 2 [(0, va_rf ((some q))), (1, va_rf (x1))] := by simpa [lv_args, zv_cat, zv_ci, zv_cj] using hl
  generalize s.heap = H at hw ⊢
  obtain ⟨locs, hlocs⟩ : ∃ L : List Loc, L = [] := ⟨_, rfl⟩
  rw [← hlocs] at hw ⊢
  unfold zf_Jx4a65c_add_9ea2d at hf
  obtain ⟨-, hf⟩ := zo_n hf
  refine zl_aload_n hx hb zd_Jx4a65c_add_9ea2d_0 rfl (lv_at hl 0 rfl) ?_
  refine lv_dup hx hb zd_Jx4a65c_add_9ea2d_1 rfl ?_
  replace hf := zo_b hf; obtain ⟨v1, ev1, hf⟩ := hf
  obtain ⟨u2, u2e, u2v⟩ := zo_b ev1
  obtain rfl := zv_i_e u2v
  refine zw_get S hK hw zk_11 (k := 0) (by decide) rfl zm_122 (Or.inr zm_123) u2e zd_Jx4a65c_add_9ea2d_2 ?_
  refine lv_iconst (v := 1) hx hb zd_Jx4a65c_add_9ea2d_5 (by decide) ?_
  refine lv_iadd hx hb zd_Jx4a65c_add_9ea2d_6 ?_
  replace hf := zo_b hf; obtain ⟨h3, eh3, hf⟩ := hf
  refine zw_put S hK hw zk_11 (k := 0) (by decide) rfl zm_122 (Or.inr zm_123) eh3 (ty := .int) (by decide +kernel) rfl rfl zd_Jx4a65c_add_9ea2d_7 (fun H locs hw => ?_)
  refine zl_aload_n hx hb zd_Jx4a65c_add_9ea2d_10 rfl (lv_at hl 0 rfl) ?_
  refine zl_aload_n hx hb zd_Jx4a65c_add_9ea2d_11 rfl (lv_at hl 1 rfl) ?_
  refine zl_aload_n hx hb zd_Jx4a65c_add_9ea2d_12 rfl (lv_at hl 0 rfl) ?_
  replace hf := zo_b hf; obtain ⟨v4, ev4, hf⟩ := hf
  obtain ⟨u5, u5e, u5v⟩ := zo_b ev4
  obtain rfl := zv_r_e u5v
  refine zw_get S hK hw zk_11 (k := 1) (by decide) rfl zm_119 (Or.inl rfl) u5e zd_Jx4a65c_add_9ea2d_13 ?_
  refine zl_aload_n hx hb zd_Jx4a65c_add_9ea2d_16 rfl (lv_at hl 0 rfl) ?_
  replace hf := zo_b hf; obtain ⟨v6, ev6, hf⟩ := hf
  obtain ⟨u7, u7e, u7v⟩ := zo_b ev6
  obtain rfl := zv_i_e u7v
  refine zw_get S hK hw zk_11 (k := 2) (by decide) rfl zm_120 (Or.inl rfl) u7e zd_Jx4a65c_add_9ea2d_17 ?_
  replace hf := zo_b hf; obtain ⟨r8, er8, hf⟩ := hf
  refine zw_callV (n := 3) (ci := 11) (q := zc_cl[11]) (As := [va_rf (x1), va_rf (v4), .int (v6)]) (rest := []) S hK hw (zt_Jx4a65c_add_72be8 l g h3 q x1 v4 v6 _ er8) zm_553 zm_555 zm_4 zq_Jx4a65c_add_72be8 zm_72 (by decide +kernel) ⟨Nat.le_of_ble_eq_true rfl, Nat.le_of_ble_eq_true rfl⟩ rfl rfl rfl (zi_Jx4a65c_add_72be8 er8) hl.1 rfl (by simp [zv_cat, zv_ci, zv_cj]) zd_Jx4a65c_add_9ea2d_20 ⟨(by show 0 + (1 : Nat) ≤ (1 : Nat); omega), (by show 0 + (40 : Nat) ≤ (40 : Nat); omega)⟩ (fun H locs hw => ?_)
  replace hw : zc_W g r8 H locs := hw
  refine W.widen (k := (0 + 1)) (n := (0 + 40)) (Nat.le_refl _) (Nat.le_refl _) ?_
  refine lv_iconst (v := 1) hx hb zd_Jx4a65c_add_9ea2d_23 (by decide) ?_
  have hres := Option.some.inj hf; subst hres
  exact zw_iret (v := 1) (ty := .boolean) hx hb hr hlk rfl hw zd_Jx4a65c_add_9ea2d_24 (by show _ ≤ (1 : Nat); omega) (by show _ ≤ (40 : Nat); omega)
def zf_X6_becomeLike_L9 (q : Nat) (y1 : Option Nat) : Nat → zc_H → Int32 → Option (zc_H)
  | 0, _, _ => none
  | n + 1, h, y2 =>
    y1.bind fun a5 =>
    (zf_gr h a5 6 0).bind fun v6 =>
    v6.bind fun a8 =>
    (zf_Jx4a65c_size_8abf5 h a8).bind fun r9 =>
    if r9 ≤ y2 then
      some h
    else
    (zf_gr h q 6 0).bind fun v11 =>
    (zf_gr h a5 6 0).bind fun v13 =>
    v13.bind fun a15 =>
    (zf_Jx4a65c_get_915e3 h a15 y2).bind fun r16 =>
    if ¬ zf_cc h r16 4 = true then none else
    v11.bind fun a18 =>
    (zf_Jx4a65c_add_9ea2d h a18 r16).bind fun r19 =>
    zf_X6_becomeLike_L9 q y1 n r19.1 (y2 + 1)
def zf_X6_becomeLike_L54 (q : Nat) (y1 : Option Nat) : Nat → zc_H → Int32 → Option (zc_H)
  | 0, _, _ => none
  | n + 1, h, y2 =>
    y1.bind fun a27 =>
    (zf_gr h a27 6 1).bind fun v28 =>
    v28.bind fun a30 =>
    (zf_Jx4a65c_size_8abf5 h a30).bind fun r31 =>
    if r31 ≤ y2 then
      some h
    else
    (zf_gr h q 6 1).bind fun v33 =>
    (zf_gr h a27 6 1).bind fun v35 =>
    v35.bind fun a37 =>
    (zf_Jx4a65c_get_915e3 h a37 y2).bind fun r38 =>
    if ¬ zf_cc h r38 3 = true then none else
    v33.bind fun a40 =>
    (zf_Jx4a65c_add_9ea2d h a40 r38).bind fun r41 =>
    zf_X6_becomeLike_L54 q y1 n r41.1 (y2 + 1)
def zf_X6_becomeLike (h : zc_H) (q : Nat) (x1 : Option Nat) : Option (zc_H) :=
  if ¬ zf_is h q 6 = true then none else
  (zf_gr h q 6 0).bind fun v1 =>
  v1.bind fun a3 =>
  (zf_Jx4a65c_clear_da8c8 h a3).bind fun r4 =>
  (zf_X6_becomeLike_L9 q x1 17 r4 0).bind fun w20 =>
  (zf_gr w20 q 6 1).bind fun v23 =>
  v23.bind fun a25 =>
  (zf_Jx4a65c_clear_da8c8 w20 a25).bind fun r26 =>
  (zf_X6_becomeLike_L54 q x1 17 r26 0).bind fun w42 =>
  x1.bind fun a45 =>
  (zf_gi w42 a45 6 2).bind fun v46 =>
  (zf_p w42 q 6 2 (.int (v46))).bind fun h48 =>
  (zf_gi h48 a45 6 3).bind fun v49 =>
  (zf_p h48 q 6 3 (.int (v49))).bind fun h51 =>
  (zf_gi h51 a45 6 4).bind fun v52 =>
  (zf_p h51 q 6 4 (.int (v52))).bind fun h54 =>
  (zf_gi h54 a45 6 5).bind fun v55 =>
  (zf_p h54 q 6 5 (.int (v55))).bind fun h57 =>
  (zf_gi h57 a45 6 6).bind fun v58 =>
  (zf_p h57 q 6 6 (.int (v58))).bind fun h60 =>
  some h60
abbrev zr_X6_becomeLike : Room := { frames := 8, cells := 34, slots := 1360, locals := 228 }
theorem zi_X6_becomeLike {h : zc_H} {q : Nat} {x1 : Option Nat} {res : zc_H} (hf : zf_X6_becomeLike h q x1 = some res) : zf_is h q 6 = true := Decidable.not_not.mp (zo_n hf).1
set_option maxHeartbeats 4000000 in
set_option maxRecDepth 20000 in
theorem zt_X6_becomeLike (l : Launch) (g : zc_G) (h : zc_H) (q : Nat) (x1 : Option Nat) (res : zc_H) (hf : zf_X6_becomeLike h q x1 = some res) : zc_M l g yX6_becomeLike cX6_becomeLike 3 none zr_X6_becomeLike h [va_rf ((some q)), va_rf (x1)] res none := by
  refine zc_M.of (by decide) (by simp [lg_sl, zv_cat, zv_ci, zv_cj]) ?_
  intro p e s m below meth c ls S hK hw hr hlk hnm hl
  replace S : CallFix p m c cX6_becomeLike 3 s [va_rf ((some q)), va_rf (x1)].toArray (zc_ws yX6_becomeLike cX6_becomeLike 3 none) RX6 := S
  have hx := S.1
  have hb := S.2.1
  replace hl : lv_has ls 3 [(0, va_rf ((some q))), (1, va_rf (x1))] := by simpa [lv_args, zv_cat, zv_ci, zv_cj] using hl
  generalize s.heap = H at hw ⊢
  obtain ⟨locs, hlocs⟩ : ∃ L : List Loc, L = [] := ⟨_, rfl⟩
  rw [← hlocs] at hw ⊢
  have L9 : ∀ (y1 : Option Nat) (n : Nat) (h : zc_H) (y2 : Int32) (w : zc_H) (H : Heap) (locs : List Loc) (ls : Array Slot) (cl sl : Nat), cl + n * 1 ≤ 34 → sl + n * 40 ≤ 1360 → zf_X6_becomeLike_L9 q y1 n h y2 = some w → zc_W g h H locs → lv_has ls 3 [(0, va_rf ((some q))), (1, va_rf (y1)), (2, .int (y2))] → (∀ (H : Heap) (locs : List Loc) (ls : Array Slot) (cl1 sl1 : Nat), cl1 ≤ cl + n * 1 → sl1 ≤ sl + n * 40 → zc_W g w H locs → lv_has ls 3 [(0, va_rf ((some q))), (1, va_rf (y1))] → W p l e zr_X6_becomeLike s m [va_rf ((some q)), va_rf (x1)].toArray below meth c H locs cl1 sl1 (zc_Q g below zr_X6_becomeLike none res [va_rf ((some q)), va_rf (x1)] s) (F0 m 45 ls [])) → W p l e zr_X6_becomeLike s m [va_rf ((some q)), va_rf (x1)].toArray below meth c H locs cl sl (zc_Q g below zr_X6_becomeLike none res [va_rf ((some q)), va_rf (x1)] s) (F0 m 9 ls []) := by
    intro y1 n
    induction n with
    | zero =>
      intro h y2 w H locs ls cl sl hcl hsl hf
      cases hf
    | succ n ih =>
      intro h y2 w H locs ls cl sl hcl hsl hf hw hl  kk
      unfold zf_X6_becomeLike_L9 at hf
      refine lv_iload_n hx hb zd_X6_becomeLike_9 rfl (lv_at hl 2 rfl) ?_
      refine zl_aload_n hx hb zd_X6_becomeLike_10 rfl (lv_at hl 1 rfl) ?_
      replace hf := zo_b hf; obtain ⟨a5, na5, hf⟩ := hf
      refine W.eq (g2 := F0 m 11 ls [va_rf ((some a5)), .int (y2)]) (by rw [na5] <;> rfl) ?_
      replace hf := zo_b hf; obtain ⟨v6, ev6, hf⟩ := hf
      obtain ⟨u7, u7e, u7v⟩ := zo_b ev6
      obtain rfl := zv_r_e u7v
      refine zw_get S hK hw zk_6 (k := 0) (by decide) rfl zm_131 (Or.inl rfl) u7e zd_X6_becomeLike_11 ?_
      replace hf := zo_b hf; obtain ⟨a8, na8, hf⟩ := hf
      refine W.eq (g2 := F0 m 14 ls [va_rf ((some a8)), .int (y2)]) (by rw [na8] <;> rfl) ?_
      replace hf := zo_b hf; obtain ⟨r9, er9, hf⟩ := hf
      refine zw_callV (n := 0) (ci := 11) (q := zc_cl[11]) (As := []) (rest := [.int (y2)]) S hK hw (zt_Jx4a65c_size_8abf5 l g h a8 _ er9) zm_424 zm_425 zm_426 zq_Jx4a65c_size_8abf5 zm_72 (by decide +kernel) ⟨Nat.le_of_ble_eq_true rfl, Nat.le_of_ble_eq_true rfl⟩ rfl rfl rfl (zi_Jx4a65c_size_8abf5 er9) hl.1 rfl (by simp [zv_cat, zv_ci, zv_cj]) zd_X6_becomeLike_14 ⟨(by show cl + (0 : Nat) ≤ (34 : Nat); omega), (by show sl + (0 : Nat) ≤ (1360 : Nat); omega)⟩ (fun H locs hw => ?_)
      replace hw : zc_W g h H locs := hw
      refine W.widen (k := (cl + 0)) (n := (sl + 0)) (Nat.le_refl _) (Nat.le_refl _) ?_
      refine lv_icmp_ge (tgt := 45) hx hb zd_X6_becomeLike_17 (by decide) (fun c10 => ?_) (fun c10 => ?_)
      · replace hf := zo_t c10 hf
        have hres := Option.some.inj hf; subst hres
        exact kk _ _ _ _ _ (by omega) (by omega) hw (lv_sub hl [0, 1] rfl)
      · replace hf := zo_f c10 hf
        refine zl_aload_n hx hb zd_X6_becomeLike_20 rfl (lv_at hl 0 rfl) ?_
        replace hf := zo_b hf; obtain ⟨v11, ev11, hf⟩ := hf
        obtain ⟨u12, u12e, u12v⟩ := zo_b ev11
        obtain rfl := zv_r_e u12v
        refine zw_get S hK hw zk_6 (k := 0) (by decide) rfl zm_131 (Or.inl rfl) u12e zd_X6_becomeLike_21 ?_
        refine zl_aload_n hx hb zd_X6_becomeLike_24 rfl (lv_at hl 1 rfl) ?_
        refine W.eq (g2 := F0 m 25 ls [va_rf ((some a5)), va_rf (v11)]) (by rw [na5] <;> rfl) ?_
        replace hf := zo_b hf; obtain ⟨v13, ev13, hf⟩ := hf
        obtain ⟨u14, u14e, u14v⟩ := zo_b ev13
        obtain rfl := zv_r_e u14v
        refine zw_get S hK hw zk_6 (k := 0) (by decide) rfl zm_131 (Or.inl rfl) u14e zd_X6_becomeLike_25 ?_
        refine lv_iload_n hx hb zd_X6_becomeLike_28 rfl (lv_at hl 2 rfl) ?_
        replace hf := zo_b hf; obtain ⟨a15, na15, hf⟩ := hf
        refine W.eq (g2 := F0 m 29 ls [.int (y2), va_rf ((some a15)), va_rf (v11)]) (by rw [na15] <;> rfl) ?_
        replace hf := zo_b hf; obtain ⟨r16, er16, hf⟩ := hf
        refine zw_callV (n := 1) (ci := 11) (q := zc_cl[11]) (As := [.int (y2)]) (rest := [va_rf (v11)]) S hK hw (zt_Jx4a65c_get_915e3 l g h a15 y2 _ er16) zm_428 zm_429 zm_430 zq_Jx4a65c_get_915e3 zm_72 (by decide +kernel) ⟨Nat.le_of_ble_eq_true rfl, Nat.le_of_ble_eq_true rfl⟩ rfl rfl rfl (zi_Jx4a65c_get_915e3 er16) hl.1 rfl (by simp [zv_cat, zv_ci, zv_cj]) zd_X6_becomeLike_29 ⟨(by show (cl + 0) + (0 : Nat) ≤ (34 : Nat); omega), (by show (sl + 0) + (0 : Nat) ≤ (1360 : Nat); omega)⟩ (fun H locs hw => ?_)
        replace hw : zc_W g h H locs := hw
        refine W.widen (k := ((cl + 0) + 0)) (n := ((sl + 0) + 0)) (Nat.le_refl _) (Nat.le_refl _) ?_
        replace hf := zo_n hf; obtain ⟨z17, hf⟩ := hf
        refine zw_cast (q := zc_cl[4]) S hK hw zm_486 rfl rfl (Decidable.not_not.mp z17) zd_X6_becomeLike_32 ?_
        replace hf := zo_b hf; obtain ⟨a18, na18, hf⟩ := hf
        refine W.eq (g2 := F0 m 35 ls [va_rf (r16), va_rf ((some a18))]) (by rw [na18] <;> rfl) ?_
        replace hf := zo_b hf; obtain ⟨r19, er19, hf⟩ := hf
        refine zw_callV (n := 1) (ci := 11) (q := zc_cl[11]) (As := [va_rf (r16)]) (rest := []) S hK hw (zt_Jx4a65c_add_9ea2d l g h a18 r16 _ er19) zm_1062 zm_550 zm_551 zq_Jx4a65c_add_9ea2d zm_72 (by decide +kernel) ⟨Nat.le_of_ble_eq_true rfl, Nat.le_of_ble_eq_true rfl⟩ rfl rfl rfl (zi_Jx4a65c_add_9ea2d er19) hl.1 rfl (by simp [zv_cat, zv_ci, zv_cj]) zd_X6_becomeLike_35 ⟨(by show ((cl + 0) + 0) + (1 : Nat) ≤ (34 : Nat); omega), (by show ((sl + 0) + 0) + (40 : Nat) ≤ (1360 : Nat); omega)⟩ (fun H locs hw => ?_)
        replace hw : zc_W g r19.1 H locs := hw
        refine W.widen (k := (((cl + 0) + 0) + 1)) (n := (((sl + 0) + 0) + 40)) (Nat.le_refl _) (Nat.le_refl _) ?_
        refine lv_pop hx hb zd_X6_becomeLike_38 rfl ?_
        refine lv_iinc (i := 2) (v := (y2 + 1)) (lv' := [(2, .int ((y2 + 1))), (0, va_rf ((some q))), (1, va_rf (y1))]) hx hb zd_X6_becomeLike_39 hl (k := 2) rfl (congrArg (_ + ·) (by decide)) (by decide) (by simp [List.filter, zv_cat, zv_ci, zv_cj]) (fun ls hl => ?_)
        refine lv_goto (tgt := 9) hx hb zd_X6_becomeLike_42 (by decide) ?_
        exact ih r19.1 (y2 + 1) _ _ _ _ _ _ (by omega) (by omega) hf hw (lv_sub hl [1, 2, 0] rfl) (fun H locs ls cl1 sl1 h1 h2 => kk H locs ls cl1 sl1 (by omega) (by omega))
  have L54 : ∀ (y1 : Option Nat) (n : Nat) (h : zc_H) (y2 : Int32) (w : zc_H) (H : Heap) (locs : List Loc) (ls : Array Slot) (cl sl : Nat), cl + n * 1 ≤ 34 → sl + n * 40 ≤ 1360 → zf_X6_becomeLike_L54 q y1 n h y2 = some w → zc_W g h H locs → lv_has ls 3 [(0, va_rf ((some q))), (1, va_rf (y1)), (2, .int (y2))] → (∀ (H : Heap) (locs : List Loc) (ls : Array Slot) (cl1 sl1 : Nat), cl1 ≤ cl + n * 1 → sl1 ≤ sl + n * 40 → zc_W g w H locs → lv_has ls 3 [(0, va_rf ((some q))), (1, va_rf (y1))] → W p l e zr_X6_becomeLike s m [va_rf ((some q)), va_rf (x1)].toArray below meth c H locs cl1 sl1 (zc_Q g below zr_X6_becomeLike none res [va_rf ((some q)), va_rf (x1)] s) (F0 m 90 ls [])) → W p l e zr_X6_becomeLike s m [va_rf ((some q)), va_rf (x1)].toArray below meth c H locs cl sl (zc_Q g below zr_X6_becomeLike none res [va_rf ((some q)), va_rf (x1)] s) (F0 m 54 ls []) := by
    intro y1 n
    induction n with
    | zero =>
      intro h y2 w H locs ls cl sl hcl hsl hf
      cases hf
    | succ n ih =>
      intro h y2 w H locs ls cl sl hcl hsl hf hw hl  kk
      unfold zf_X6_becomeLike_L54 at hf
      refine lv_iload_n hx hb zd_X6_becomeLike_54 rfl (lv_at hl 2 rfl) ?_
      refine zl_aload_n hx hb zd_X6_becomeLike_55 rfl (lv_at hl 1 rfl) ?_
      replace hf := zo_b hf; obtain ⟨a27, na27, hf⟩ := hf
      refine W.eq (g2 := F0 m 56 ls [va_rf ((some a27)), .int (y2)]) (by rw [na27] <;> rfl) ?_
      replace hf := zo_b hf; obtain ⟨v28, ev28, hf⟩ := hf
      obtain ⟨u29, u29e, u29v⟩ := zo_b ev28
      obtain rfl := zv_r_e u29v
      refine zw_get S hK hw zk_6 (k := 1) (by decide) rfl zm_133 (Or.inl rfl) u29e zd_X6_becomeLike_56 ?_
      replace hf := zo_b hf; obtain ⟨a30, na30, hf⟩ := hf
      refine W.eq (g2 := F0 m 59 ls [va_rf ((some a30)), .int (y2)]) (by rw [na30] <;> rfl) ?_
      replace hf := zo_b hf; obtain ⟨r31, er31, hf⟩ := hf
      refine zw_callV (n := 0) (ci := 11) (q := zc_cl[11]) (As := []) (rest := [.int (y2)]) S hK hw (zt_Jx4a65c_size_8abf5 l g h a30 _ er31) zm_424 zm_425 zm_426 zq_Jx4a65c_size_8abf5 zm_72 (by decide +kernel) ⟨Nat.le_of_ble_eq_true rfl, Nat.le_of_ble_eq_true rfl⟩ rfl rfl rfl (zi_Jx4a65c_size_8abf5 er31) hl.1 rfl (by simp [zv_cat, zv_ci, zv_cj]) zd_X6_becomeLike_59 ⟨(by show cl + (0 : Nat) ≤ (34 : Nat); omega), (by show sl + (0 : Nat) ≤ (1360 : Nat); omega)⟩ (fun H locs hw => ?_)
      replace hw : zc_W g h H locs := hw
      refine W.widen (k := (cl + 0)) (n := (sl + 0)) (Nat.le_refl _) (Nat.le_refl _) ?_
      refine lv_icmp_ge (tgt := 90) hx hb zd_X6_becomeLike_62 (by decide) (fun c32 => ?_) (fun c32 => ?_)
      · replace hf := zo_t c32 hf
        have hres := Option.some.inj hf; subst hres
        exact kk _ _ _ _ _ (by omega) (by omega) hw (lv_sub hl [0, 1] rfl)
      · replace hf := zo_f c32 hf
        refine zl_aload_n hx hb zd_X6_becomeLike_65 rfl (lv_at hl 0 rfl) ?_
        replace hf := zo_b hf; obtain ⟨v33, ev33, hf⟩ := hf
        obtain ⟨u34, u34e, u34v⟩ := zo_b ev33
        obtain rfl := zv_r_e u34v
        refine zw_get S hK hw zk_6 (k := 1) (by decide) rfl zm_133 (Or.inl rfl) u34e zd_X6_becomeLike_66 ?_
        refine zl_aload_n hx hb zd_X6_becomeLike_69 rfl (lv_at hl 1 rfl) ?_
        refine W.eq (g2 := F0 m 70 ls [va_rf ((some a27)), va_rf (v33)]) (by rw [na27] <;> rfl) ?_
        replace hf := zo_b hf; obtain ⟨v35, ev35, hf⟩ := hf
        obtain ⟨u36, u36e, u36v⟩ := zo_b ev35
        obtain rfl := zv_r_e u36v
        refine zw_get S hK hw zk_6 (k := 1) (by decide) rfl zm_133 (Or.inl rfl) u36e zd_X6_becomeLike_70 ?_
        refine lv_iload_n hx hb zd_X6_becomeLike_73 rfl (lv_at hl 2 rfl) ?_
        replace hf := zo_b hf; obtain ⟨a37, na37, hf⟩ := hf
        refine W.eq (g2 := F0 m 74 ls [.int (y2), va_rf ((some a37)), va_rf (v33)]) (by rw [na37] <;> rfl) ?_
        replace hf := zo_b hf; obtain ⟨r38, er38, hf⟩ := hf
        refine zw_callV (n := 1) (ci := 11) (q := zc_cl[11]) (As := [.int (y2)]) (rest := [va_rf (v33)]) S hK hw (zt_Jx4a65c_get_915e3 l g h a37 y2 _ er38) zm_428 zm_429 zm_430 zq_Jx4a65c_get_915e3 zm_72 (by decide +kernel) ⟨Nat.le_of_ble_eq_true rfl, Nat.le_of_ble_eq_true rfl⟩ rfl rfl rfl (zi_Jx4a65c_get_915e3 er38) hl.1 rfl (by simp [zv_cat, zv_ci, zv_cj]) zd_X6_becomeLike_74 ⟨(by show (cl + 0) + (0 : Nat) ≤ (34 : Nat); omega), (by show (sl + 0) + (0 : Nat) ≤ (1360 : Nat); omega)⟩ (fun H locs hw => ?_)
        replace hw : zc_W g h H locs := hw
        refine W.widen (k := ((cl + 0) + 0)) (n := ((sl + 0) + 0)) (Nat.le_refl _) (Nat.le_refl _) ?_
        replace hf := zo_n hf; obtain ⟨z39, hf⟩ := hf
        refine zw_cast (q := zc_cl[3]) S hK hw zm_442 rfl rfl (Decidable.not_not.mp z39) zd_X6_becomeLike_77 ?_
        replace hf := zo_b hf; obtain ⟨a40, na40, hf⟩ := hf
        refine W.eq (g2 := F0 m 80 ls [va_rf (r38), va_rf ((some a40))]) (by rw [na40] <;> rfl) ?_
        replace hf := zo_b hf; obtain ⟨r41, er41, hf⟩ := hf
        refine zw_callV (n := 1) (ci := 11) (q := zc_cl[11]) (As := [va_rf (r38)]) (rest := []) S hK hw (zt_Jx4a65c_add_9ea2d l g h a40 r38 _ er41) zm_1062 zm_550 zm_551 zq_Jx4a65c_add_9ea2d zm_72 (by decide +kernel) ⟨Nat.le_of_ble_eq_true rfl, Nat.le_of_ble_eq_true rfl⟩ rfl rfl rfl (zi_Jx4a65c_add_9ea2d er41) hl.1 rfl (by simp [zv_cat, zv_ci, zv_cj]) zd_X6_becomeLike_80 ⟨(by show ((cl + 0) + 0) + (1 : Nat) ≤ (34 : Nat); omega), (by show ((sl + 0) + 0) + (40 : Nat) ≤ (1360 : Nat); omega)⟩ (fun H locs hw => ?_)
        replace hw : zc_W g r41.1 H locs := hw
        refine W.widen (k := (((cl + 0) + 0) + 1)) (n := (((sl + 0) + 0) + 40)) (Nat.le_refl _) (Nat.le_refl _) ?_
        refine lv_pop hx hb zd_X6_becomeLike_83 rfl ?_
        refine lv_iinc (i := 2) (v := (y2 + 1)) (lv' := [(2, .int ((y2 + 1))), (0, va_rf ((some q))), (1, va_rf (y1))]) hx hb zd_X6_becomeLike_84 hl (k := 2) rfl (congrArg (_ + ·) (by decide)) (by decide) (by simp [List.filter, zv_cat, zv_ci, zv_cj]) (fun ls hl => ?_)
        refine lv_goto (tgt := 54) hx hb zd_X6_becomeLike_87 (by decide) ?_
        exact ih r41.1 (y2 + 1) _ _ _ _ _ _ (by omega) (by omega) hf hw (lv_sub hl [1, 2, 0] rfl) (fun H locs ls cl1 sl1 h1 h2 => kk H locs ls cl1 sl1 (by omega) (by omega))
  unfold zf_X6_becomeLike at hf
  obtain ⟨-, hf⟩ := zo_n hf
  refine zl_aload_n hx hb zd_X6_becomeLike_0 rfl (lv_at hl 0 rfl) ?_
  replace hf := zo_b hf; obtain ⟨v1, ev1, hf⟩ := hf
  obtain ⟨u2, u2e, u2v⟩ := zo_b ev1
  obtain rfl := zv_r_e u2v
  refine zw_get S hK hw zk_6 (k := 0) (by decide) rfl zm_131 (Or.inl rfl) u2e zd_X6_becomeLike_1 ?_
  replace hf := zo_b hf; obtain ⟨a3, na3, hf⟩ := hf
  refine W.eq (g2 := F0 m 4 ls [va_rf ((some a3))]) (by rw [na3] <;> rfl) ?_
  replace hf := zo_b hf; obtain ⟨r4, er4, hf⟩ := hf
  refine zw_callV (n := 0) (ci := 11) (q := zc_cl[11]) (As := []) (rest := []) S hK hw (zt_Jx4a65c_clear_da8c8 l g h a3 _ er4) zm_1061 zm_719 zm_720 zq_Jx4a65c_clear_da8c8 zm_72 (by decide +kernel) ⟨Nat.le_of_ble_eq_true rfl, Nat.le_of_ble_eq_true rfl⟩ rfl rfl rfl (zi_Jx4a65c_clear_da8c8 er4) hl.1 rfl (by simp [zv_cat, zv_ci, zv_cj]) zd_X6_becomeLike_4 ⟨(by show 0 + (0 : Nat) ≤ (34 : Nat); omega), (by show 0 + (0 : Nat) ≤ (1360 : Nat); omega)⟩ (fun H locs hw => ?_)
  replace hw : zc_W g r4 H locs := hw
  refine W.widen (k := (0 + 0)) (n := (0 + 0)) (Nat.le_refl _) (Nat.le_refl _) ?_
  refine lv_iconst (v := 0) hx hb zd_X6_becomeLike_7 (by decide) ?_
  refine lv_istore_n (i := 2) (lv' := [(2, .int (0)), (0, va_rf ((some q))), (1, va_rf (x1))]) hx hb zd_X6_becomeLike_8 rfl hl (by decide) (by simp [List.filter, zv_cat, zv_ci, zv_cj]) (fun ls hl => ?_)
  replace hf := zo_b hf; obtain ⟨w20, w20e, hf⟩ := hf
  refine L9 x1 17 r4 0 _ _ _ _ _ _ (by omega) (by omega) w20e hw (lv_sub hl [1, 2, 0] rfl) (fun H locs ls cl21 sl22 hcl21 hsl22 hw hl => ?_)
  refine zl_aload_n hx hb zd_X6_becomeLike_45 rfl (lv_at hl 0 rfl) ?_
  replace hf := zo_b hf; obtain ⟨v23, ev23, hf⟩ := hf
  obtain ⟨u24, u24e, u24v⟩ := zo_b ev23
  obtain rfl := zv_r_e u24v
  refine zw_get S hK hw zk_6 (k := 1) (by decide) rfl zm_133 (Or.inl rfl) u24e zd_X6_becomeLike_46 ?_
  replace hf := zo_b hf; obtain ⟨a25, na25, hf⟩ := hf
  refine W.eq (g2 := F0 m 49 ls [va_rf ((some a25))]) (by rw [na25] <;> rfl) ?_
  replace hf := zo_b hf; obtain ⟨r26, er26, hf⟩ := hf
  refine zw_callV (n := 0) (ci := 11) (q := zc_cl[11]) (As := []) (rest := []) S hK hw (zt_Jx4a65c_clear_da8c8 l g w20 a25 _ er26) zm_1061 zm_719 zm_720 zq_Jx4a65c_clear_da8c8 zm_72 (by decide +kernel) ⟨Nat.le_of_ble_eq_true rfl, Nat.le_of_ble_eq_true rfl⟩ rfl rfl rfl (zi_Jx4a65c_clear_da8c8 er26) hl.1 rfl (by simp [zv_cat, zv_ci, zv_cj]) zd_X6_becomeLike_49 ⟨(by show cl21 + (0 : Nat) ≤ (34 : Nat); omega), (by show sl22 + (0 : Nat) ≤ (1360 : Nat); omega)⟩ (fun H locs hw => ?_)
  replace hw : zc_W g r26 H locs := hw
  refine W.widen (k := (cl21 + 0)) (n := (sl22 + 0)) (Nat.le_refl _) (Nat.le_refl _) ?_
  refine lv_iconst (v := 0) hx hb zd_X6_becomeLike_52 (by decide) ?_
  refine lv_istore_n (i := 2) (lv' := [(2, .int (0)), (0, va_rf ((some q))), (1, va_rf (x1))]) hx hb zd_X6_becomeLike_53 rfl hl (by decide) (by simp [List.filter, zv_cat, zv_ci, zv_cj]) (fun ls hl => ?_)
  replace hf := zo_b hf; obtain ⟨w42, w42e, hf⟩ := hf
  refine L54 x1 17 r26 0 _ _ _ _ _ _ (by omega) (by omega) w42e hw (lv_sub hl [1, 2, 0] rfl) (fun H locs ls cl43 sl44 hcl43 hsl44 hw hl => ?_)
  refine zl_aload_n hx hb zd_X6_becomeLike_90 rfl (lv_at hl 0 rfl) ?_
  refine zl_aload_n hx hb zd_X6_becomeLike_91 rfl (lv_at hl 1 rfl) ?_
  replace hf := zo_b hf; obtain ⟨a45, na45, hf⟩ := hf
  refine W.eq (g2 := F0 m 92 ls [va_rf ((some a45)), va_rf ((some q))]) (by rw [na45] <;> rfl) ?_
  replace hf := zo_b hf; obtain ⟨v46, ev46, hf⟩ := hf
  obtain ⟨u47, u47e, u47v⟩ := zo_b ev46
  obtain rfl := zv_i_e u47v
  refine zw_get S hK hw zk_6 (k := 2) (by decide) rfl zm_136 (Or.inl rfl) u47e zd_X6_becomeLike_92 ?_
  replace hf := zo_b hf; obtain ⟨h48, eh48, hf⟩ := hf
  refine zw_put S hK hw zk_6 (k := 2) (by decide) rfl zm_136 (Or.inl rfl) eh48 (ty := .int) (by decide +kernel) rfl rfl zd_X6_becomeLike_95 (fun H locs hw => ?_)
  refine zl_aload_n hx hb zd_X6_becomeLike_98 rfl (lv_at hl 0 rfl) ?_
  refine zl_aload_n hx hb zd_X6_becomeLike_99 rfl (lv_at hl 1 rfl) ?_
  refine W.eq (g2 := F0 m 100 ls [va_rf ((some a45)), va_rf ((some q))]) (by rw [na45] <;> rfl) ?_
  replace hf := zo_b hf; obtain ⟨v49, ev49, hf⟩ := hf
  obtain ⟨u50, u50e, u50v⟩ := zo_b ev49
  obtain rfl := zv_i_e u50v
  refine zw_get S hK hw zk_6 (k := 3) (by decide) rfl zm_138 (Or.inl rfl) u50e zd_X6_becomeLike_100 ?_
  replace hf := zo_b hf; obtain ⟨h51, eh51, hf⟩ := hf
  refine zw_put S hK hw zk_6 (k := 3) (by decide) rfl zm_138 (Or.inl rfl) eh51 (ty := .int) (by decide +kernel) rfl rfl zd_X6_becomeLike_103 (fun H locs hw => ?_)
  refine zl_aload_n hx hb zd_X6_becomeLike_106 rfl (lv_at hl 0 rfl) ?_
  refine zl_aload_n hx hb zd_X6_becomeLike_107 rfl (lv_at hl 1 rfl) ?_
  refine W.eq (g2 := F0 m 108 ls [va_rf ((some a45)), va_rf ((some q))]) (by rw [na45] <;> rfl) ?_
  replace hf := zo_b hf; obtain ⟨v52, ev52, hf⟩ := hf
  obtain ⟨u53, u53e, u53v⟩ := zo_b ev52
  obtain rfl := zv_i_e u53v
  refine zw_get S hK hw zk_6 (k := 4) (by decide) rfl zm_140 (Or.inl rfl) u53e zd_X6_becomeLike_108 ?_
  replace hf := zo_b hf; obtain ⟨h54, eh54, hf⟩ := hf
  refine zw_put S hK hw zk_6 (k := 4) (by decide) rfl zm_140 (Or.inl rfl) eh54 (ty := .int) (by decide +kernel) rfl rfl zd_X6_becomeLike_111 (fun H locs hw => ?_)
  refine zl_aload_n hx hb zd_X6_becomeLike_114 rfl (lv_at hl 0 rfl) ?_
  refine zl_aload_n hx hb zd_X6_becomeLike_115 rfl (lv_at hl 1 rfl) ?_
  refine W.eq (g2 := F0 m 116 ls [va_rf ((some a45)), va_rf ((some q))]) (by rw [na45] <;> rfl) ?_
  replace hf := zo_b hf; obtain ⟨v55, ev55, hf⟩ := hf
  obtain ⟨u56, u56e, u56v⟩ := zo_b ev55
  obtain rfl := zv_i_e u56v
  refine zw_get S hK hw zk_6 (k := 5) (by decide) rfl zm_142 (Or.inl rfl) u56e zd_X6_becomeLike_116 ?_
  replace hf := zo_b hf; obtain ⟨h57, eh57, hf⟩ := hf
  refine zw_put S hK hw zk_6 (k := 5) (by decide) rfl zm_142 (Or.inl rfl) eh57 (ty := .int) (by decide +kernel) rfl rfl zd_X6_becomeLike_119 (fun H locs hw => ?_)
  refine zl_aload_n hx hb zd_X6_becomeLike_122 rfl (lv_at hl 0 rfl) ?_
  refine zl_aload_n hx hb zd_X6_becomeLike_123 rfl (lv_at hl 1 rfl) ?_
  refine W.eq (g2 := F0 m 124 ls [va_rf ((some a45)), va_rf ((some q))]) (by rw [na45] <;> rfl) ?_
  replace hf := zo_b hf; obtain ⟨v58, ev58, hf⟩ := hf
  obtain ⟨u59, u59e, u59v⟩ := zo_b ev58
  obtain rfl := zv_i_e u59v
  refine zw_get S hK hw zk_6 (k := 6) (by decide) rfl zm_144 (Or.inl rfl) u59e zd_X6_becomeLike_124 ?_
  replace hf := zo_b hf; obtain ⟨h60, eh60, hf⟩ := hf
  refine zw_put S hK hw zk_6 (k := 6) (by decide) rfl zm_144 (Or.inl rfl) eh60 (ty := .int) (by decide +kernel) rfl rfl zd_X6_becomeLike_127 (fun H locs hw => ?_)
  have hres := Option.some.inj hf; subst hres
  exact zw_vret hx hb hr hlk hw zd_X6_becomeLike_130 (by show _ ≤ (34 : Nat); omega) (by show _ ≤ (1360 : Nat); omega)
def zf_X6_revisionAt (h : zc_H) (q : Nat) (x1 : Int32) : Option (Option Nat) :=
  if ¬ zf_is h q 6 = true then none else
  if x1 < 0 then
    some none
  else
  (zf_gr h q 6 0).bind fun v2 =>
  v2.bind fun a4 =>
  (zf_Jx4a65c_size_8abf5 h a4).bind fun r5 =>
  if r5 ≤ x1 then
    some none
  else
  (zf_gr h q 6 0).bind fun v7 =>
  v7.bind fun a9 =>
  (zf_Jx4a65c_get_915e3 h a9 x1).bind fun r10 =>
  if ¬ zf_cc h r10 4 = true then none else
  some r10
abbrev zr_X6_revisionAt : Room := { frames := 3, cells := 0, slots := 0, locals := 64 }
theorem zi_X6_revisionAt {h : zc_H} {q : Nat} {x1 : Int32} {res : Option Nat} (hf : zf_X6_revisionAt h q x1 = some res) : zf_is h q 6 = true := Decidable.not_not.mp (zo_n hf).1
set_option maxHeartbeats 4000000 in
set_option maxRecDepth 20000 in
theorem zt_X6_revisionAt (l : Launch) (g : zc_G) (h : zc_H) (q : Nat) (x1 : Int32) (res : Option Nat) (hf : zf_X6_revisionAt h q x1 = some res) : zc_M l g yX6_revisionAt cX6_revisionAt 2 (some (.object "LineRemarks$Revision")) zr_X6_revisionAt h [va_rf ((some q)), .int (x1)] h (some (va_rf (res))) := by
  refine zc_M.of (by decide) (by simp [lg_sl, zv_cat, zv_ci, zv_cj]) ?_
  intro p e s m below meth c ls S hK hw hr hlk hnm hl
  replace S : CallFix p m c cX6_revisionAt 2 s [va_rf ((some q)), .int (x1)].toArray (zc_ws yX6_revisionAt cX6_revisionAt 2 (some (.object "LineRemarks$Revision"))) RX6 := S
  have hx := S.1
  have hb := S.2.1
  replace hl : lv_has ls 2 [(0, va_rf ((some q))), (1, .int (x1))] := by simpa [lv_args, zv_cat, zv_ci, zv_cj] using hl
  generalize s.heap = H at hw ⊢
  obtain ⟨locs, hlocs⟩ : ∃ L : List Loc, L = [] := ⟨_, rfl⟩
  rw [← hlocs] at hw ⊢
  unfold zf_X6_revisionAt at hf
  obtain ⟨-, hf⟩ := zo_n hf
  refine lv_iload_n hx hb zd_X6_revisionAt_0 rfl (lv_at hl 1 rfl) ?_
  refine lv_if_lt (tgt := 29) hx hb zd_X6_revisionAt_1 (by decide) (fun c1 => ?_) (fun c1 => ?_)
  · replace hf := zo_t c1 hf
    refine zl_null hx hb zd_X6_revisionAt_29 ?_
    have hres := Option.some.inj hf; subst hres
    exact zw_aret hx hb hr (by first | exact Or.inl ⟨_, rfl⟩ | exact Or.inr ⟨_, rfl⟩) hlk hw zd_X6_revisionAt_30 (Nat.le_refl 0) (Nat.le_refl 0)
  · replace hf := zo_f c1 hf
    refine lv_iload_n hx hb zd_X6_revisionAt_4 rfl (lv_at hl 1 rfl) ?_
    refine zl_aload_n hx hb zd_X6_revisionAt_5 rfl (lv_at hl 0 rfl) ?_
    replace hf := zo_b hf; obtain ⟨v2, ev2, hf⟩ := hf
    obtain ⟨u3, u3e, u3v⟩ := zo_b ev2
    obtain rfl := zv_r_e u3v
    refine zw_get S hK hw zk_6 (k := 0) (by decide) rfl zm_131 (Or.inl rfl) u3e zd_X6_revisionAt_6 ?_
    replace hf := zo_b hf; obtain ⟨a4, na4, hf⟩ := hf
    refine W.eq (g2 := F0 m 9 ls [va_rf ((some a4)), .int (x1)]) (by rw [na4] <;> rfl) ?_
    replace hf := zo_b hf; obtain ⟨r5, er5, hf⟩ := hf
    refine zw_callV (n := 0) (ci := 11) (q := zc_cl[11]) (As := []) (rest := [.int (x1)]) S hK hw (zt_Jx4a65c_size_8abf5 l g h a4 _ er5) zm_424 zm_425 zm_426 zq_Jx4a65c_size_8abf5 zm_72 (by decide +kernel) ⟨Nat.le_of_ble_eq_true rfl, Nat.le_of_ble_eq_true rfl⟩ rfl rfl rfl (zi_Jx4a65c_size_8abf5 er5) hl.1 rfl (by simp [zv_cat, zv_ci, zv_cj]) zd_X6_revisionAt_9 ⟨(Nat.le_refl 0), (Nat.le_refl 0)⟩ (fun H locs hw => ?_)
    replace hw : zc_W g h H locs := hw
    refine lv_icmp_ge (tgt := 29) hx hb zd_X6_revisionAt_12 (by decide) (fun c6 => ?_) (fun c6 => ?_)
    · replace hf := zo_t c6 hf
      refine zl_null hx hb zd_X6_revisionAt_29 ?_
      have hres := Option.some.inj hf; subst hres
      exact zw_aret hx hb hr (by first | exact Or.inl ⟨_, rfl⟩ | exact Or.inr ⟨_, rfl⟩) hlk hw zd_X6_revisionAt_30 (Nat.le_refl 0) (Nat.le_refl 0)
    · replace hf := zo_f c6 hf
      refine zl_aload_n hx hb zd_X6_revisionAt_15 rfl (lv_at hl 0 rfl) ?_
      replace hf := zo_b hf; obtain ⟨v7, ev7, hf⟩ := hf
      obtain ⟨u8, u8e, u8v⟩ := zo_b ev7
      obtain rfl := zv_r_e u8v
      refine zw_get S hK hw zk_6 (k := 0) (by decide) rfl zm_131 (Or.inl rfl) u8e zd_X6_revisionAt_16 ?_
      refine lv_iload_n hx hb zd_X6_revisionAt_19 rfl (lv_at hl 1 rfl) ?_
      replace hf := zo_b hf; obtain ⟨a9, na9, hf⟩ := hf
      refine W.eq (g2 := F0 m 20 ls [.int (x1), va_rf ((some a9))]) (by rw [na9] <;> rfl) ?_
      replace hf := zo_b hf; obtain ⟨r10, er10, hf⟩ := hf
      refine zw_callV (n := 1) (ci := 11) (q := zc_cl[11]) (As := [.int (x1)]) (rest := []) S hK hw (zt_Jx4a65c_get_915e3 l g h a9 x1 _ er10) zm_428 zm_429 zm_430 zq_Jx4a65c_get_915e3 zm_72 (by decide +kernel) ⟨Nat.le_of_ble_eq_true rfl, Nat.le_of_ble_eq_true rfl⟩ rfl rfl rfl (zi_Jx4a65c_get_915e3 er10) hl.1 rfl (by simp [zv_cat, zv_ci, zv_cj]) zd_X6_revisionAt_20 ⟨(Nat.le_refl 0), (Nat.le_refl 0)⟩ (fun H locs hw => ?_)
      replace hw : zc_W g h H locs := hw
      replace hf := zo_n hf; obtain ⟨z11, hf⟩ := hf
      refine zw_cast (q := zc_cl[4]) S hK hw zm_486 rfl rfl (Decidable.not_not.mp z11) zd_X6_revisionAt_23 ?_
      refine lv_goto (tgt := 30) hx hb zd_X6_revisionAt_26 (by decide) ?_
      have hres := Option.some.inj hf; subst hres
      exact zw_aret hx hb hr (by first | exact Or.inl ⟨_, rfl⟩ | exact Or.inr ⟨_, rfl⟩) hlk hw zd_X6_revisionAt_30 (Nat.le_refl 0) (Nat.le_refl 0)
def zf_X6_remarkAt (h : zc_H) (q : Nat) (x1 : Int32) : Option (Option Nat) :=
  if ¬ zf_is h q 6 = true then none else
  if x1 < 0 then
    some none
  else
  (zf_gr h q 6 1).bind fun v2 =>
  v2.bind fun a4 =>
  (zf_Jx4a65c_size_8abf5 h a4).bind fun r5 =>
  if r5 ≤ x1 then
    some none
  else
  (zf_gr h q 6 1).bind fun v7 =>
  v7.bind fun a9 =>
  (zf_Jx4a65c_get_915e3 h a9 x1).bind fun r10 =>
  if ¬ zf_cc h r10 3 = true then none else
  some r10
abbrev zr_X6_remarkAt : Room := { frames := 3, cells := 0, slots := 0, locals := 64 }
theorem zi_X6_remarkAt {h : zc_H} {q : Nat} {x1 : Int32} {res : Option Nat} (hf : zf_X6_remarkAt h q x1 = some res) : zf_is h q 6 = true := Decidable.not_not.mp (zo_n hf).1
set_option maxHeartbeats 4000000 in
set_option maxRecDepth 20000 in
theorem zt_X6_remarkAt (l : Launch) (g : zc_G) (h : zc_H) (q : Nat) (x1 : Int32) (res : Option Nat) (hf : zf_X6_remarkAt h q x1 = some res) : zc_M l g yX6_remarkAt cX6_remarkAt 2 (some (.object "LineRemarks$Remark")) zr_X6_remarkAt h [va_rf ((some q)), .int (x1)] h (some (va_rf (res))) := by
  refine zc_M.of (by decide) (by simp [lg_sl, zv_cat, zv_ci, zv_cj]) ?_
  intro p e s m below meth c ls S hK hw hr hlk hnm hl
  replace S : CallFix p m c cX6_remarkAt 2 s [va_rf ((some q)), .int (x1)].toArray (zc_ws yX6_remarkAt cX6_remarkAt 2 (some (.object "LineRemarks$Remark"))) RX6 := S
  have hx := S.1
  have hb := S.2.1
  replace hl : lv_has ls 2 [(0, va_rf ((some q))), (1, .int (x1))] := by simpa [lv_args, zv_cat, zv_ci, zv_cj] using hl
  generalize s.heap = H at hw ⊢
  obtain ⟨locs, hlocs⟩ : ∃ L : List Loc, L = [] := ⟨_, rfl⟩
  rw [← hlocs] at hw ⊢
  unfold zf_X6_remarkAt at hf
  obtain ⟨-, hf⟩ := zo_n hf
  refine lv_iload_n hx hb zd_X6_remarkAt_0 rfl (lv_at hl 1 rfl) ?_
  refine lv_if_lt (tgt := 29) hx hb zd_X6_remarkAt_1 (by decide) (fun c1 => ?_) (fun c1 => ?_)
  · replace hf := zo_t c1 hf
    refine zl_null hx hb zd_X6_remarkAt_29 ?_
    have hres := Option.some.inj hf; subst hres
    exact zw_aret hx hb hr (by first | exact Or.inl ⟨_, rfl⟩ | exact Or.inr ⟨_, rfl⟩) hlk hw zd_X6_remarkAt_30 (Nat.le_refl 0) (Nat.le_refl 0)
  · replace hf := zo_f c1 hf
    refine lv_iload_n hx hb zd_X6_remarkAt_4 rfl (lv_at hl 1 rfl) ?_
    refine zl_aload_n hx hb zd_X6_remarkAt_5 rfl (lv_at hl 0 rfl) ?_
    replace hf := zo_b hf; obtain ⟨v2, ev2, hf⟩ := hf
    obtain ⟨u3, u3e, u3v⟩ := zo_b ev2
    obtain rfl := zv_r_e u3v
    refine zw_get S hK hw zk_6 (k := 1) (by decide) rfl zm_133 (Or.inl rfl) u3e zd_X6_remarkAt_6 ?_
    replace hf := zo_b hf; obtain ⟨a4, na4, hf⟩ := hf
    refine W.eq (g2 := F0 m 9 ls [va_rf ((some a4)), .int (x1)]) (by rw [na4] <;> rfl) ?_
    replace hf := zo_b hf; obtain ⟨r5, er5, hf⟩ := hf
    refine zw_callV (n := 0) (ci := 11) (q := zc_cl[11]) (As := []) (rest := [.int (x1)]) S hK hw (zt_Jx4a65c_size_8abf5 l g h a4 _ er5) zm_424 zm_425 zm_426 zq_Jx4a65c_size_8abf5 zm_72 (by decide +kernel) ⟨Nat.le_of_ble_eq_true rfl, Nat.le_of_ble_eq_true rfl⟩ rfl rfl rfl (zi_Jx4a65c_size_8abf5 er5) hl.1 rfl (by simp [zv_cat, zv_ci, zv_cj]) zd_X6_remarkAt_9 ⟨(Nat.le_refl 0), (Nat.le_refl 0)⟩ (fun H locs hw => ?_)
    replace hw : zc_W g h H locs := hw
    refine lv_icmp_ge (tgt := 29) hx hb zd_X6_remarkAt_12 (by decide) (fun c6 => ?_) (fun c6 => ?_)
    · replace hf := zo_t c6 hf
      refine zl_null hx hb zd_X6_remarkAt_29 ?_
      have hres := Option.some.inj hf; subst hres
      exact zw_aret hx hb hr (by first | exact Or.inl ⟨_, rfl⟩ | exact Or.inr ⟨_, rfl⟩) hlk hw zd_X6_remarkAt_30 (Nat.le_refl 0) (Nat.le_refl 0)
    · replace hf := zo_f c6 hf
      refine zl_aload_n hx hb zd_X6_remarkAt_15 rfl (lv_at hl 0 rfl) ?_
      replace hf := zo_b hf; obtain ⟨v7, ev7, hf⟩ := hf
      obtain ⟨u8, u8e, u8v⟩ := zo_b ev7
      obtain rfl := zv_r_e u8v
      refine zw_get S hK hw zk_6 (k := 1) (by decide) rfl zm_133 (Or.inl rfl) u8e zd_X6_remarkAt_16 ?_
      refine lv_iload_n hx hb zd_X6_remarkAt_19 rfl (lv_at hl 1 rfl) ?_
      replace hf := zo_b hf; obtain ⟨a9, na9, hf⟩ := hf
      refine W.eq (g2 := F0 m 20 ls [.int (x1), va_rf ((some a9))]) (by rw [na9] <;> rfl) ?_
      replace hf := zo_b hf; obtain ⟨r10, er10, hf⟩ := hf
      refine zw_callV (n := 1) (ci := 11) (q := zc_cl[11]) (As := [.int (x1)]) (rest := []) S hK hw (zt_Jx4a65c_get_915e3 l g h a9 x1 _ er10) zm_428 zm_429 zm_430 zq_Jx4a65c_get_915e3 zm_72 (by decide +kernel) ⟨Nat.le_of_ble_eq_true rfl, Nat.le_of_ble_eq_true rfl⟩ rfl rfl rfl (zi_Jx4a65c_get_915e3 er10) hl.1 rfl (by simp [zv_cat, zv_ci, zv_cj]) zd_X6_remarkAt_20 ⟨(Nat.le_refl 0), (Nat.le_refl 0)⟩ (fun H locs hw => ?_)
      replace hw : zc_W g h H locs := hw
      replace hf := zo_n hf; obtain ⟨z11, hf⟩ := hf
      refine zw_cast (q := zc_cl[3]) S hK hw zm_442 rfl rfl (Decidable.not_not.mp z11) zd_X6_remarkAt_23 ?_
      refine lv_goto (tgt := 30) hx hb zd_X6_remarkAt_26 (by decide) ?_
      have hres := Option.some.inj hf; subst hres
      exact zw_aret hx hb hr (by first | exact Or.inl ⟨_, rfl⟩ | exact Or.inr ⟨_, rfl⟩) hlk hw zd_X6_remarkAt_30 (Nat.le_refl 0) (Nat.le_refl 0)
def zf_X6_latestCount (h : zc_H) (q : Nat) : Option (Int32) :=
  if ¬ zf_is h q 6 = true then none else
  (zf_gr h q 6 0).bind fun v1 =>
  v1.bind fun a3 =>
  (zf_Jx4a65c_size_8abf5 h a3).bind fun r4 =>
  (zf_X6_revisionAt h q (r4 - 1)).bind fun r5 =>
  if r5 = none then
    some 0
  else
  r5.bind fun a7 =>
  (zf_X4_count h a7).bind fun r8 =>
  some r8
abbrev zr_X6_latestCount : Room := { frames := 4, cells := 0, slots := 0, locals := 85 }
theorem zi_X6_latestCount {h : zc_H} {q : Nat} {res : Int32} (hf : zf_X6_latestCount h q = some res) : zf_is h q 6 = true := Decidable.not_not.mp (zo_n hf).1
set_option maxHeartbeats 4000000 in
set_option maxRecDepth 20000 in
theorem zt_X6_latestCount (l : Launch) (g : zc_G) (h : zc_H) (q : Nat) (res : Int32) (hf : zf_X6_latestCount h q = some res) : zc_M l g yX6_latestCount cX6_latestCount 2 (some .int) zr_X6_latestCount h [va_rf ((some q))] h (some (.int (res))) := by
  refine zc_M.of (by decide) (by simp [lg_sl, zv_cat, zv_ci, zv_cj]) ?_
  intro p e s m below meth c ls S hK hw hr hlk hnm hl
  replace S : CallFix p m c cX6_latestCount 2 s [va_rf ((some q))].toArray (zc_ws yX6_latestCount cX6_latestCount 2 (some .int)) RX6 := S
  have hx := S.1
  have hb := S.2.1
  replace hl : lv_has ls 2 [(0, va_rf ((some q)))] := by simpa [lv_args, zv_cat, zv_ci, zv_cj] using hl
  generalize s.heap = H at hw ⊢
  obtain ⟨locs, hlocs⟩ : ∃ L : List Loc, L = [] := ⟨_, rfl⟩
  rw [← hlocs] at hw ⊢
  unfold zf_X6_latestCount at hf
  obtain ⟨-, hf⟩ := zo_n hf
  refine zl_aload_n hx hb zd_X6_latestCount_0 rfl (lv_at hl 0 rfl) ?_
  refine zl_aload_n hx hb zd_X6_latestCount_1 rfl (lv_at hl 0 rfl) ?_
  replace hf := zo_b hf; obtain ⟨v1, ev1, hf⟩ := hf
  obtain ⟨u2, u2e, u2v⟩ := zo_b ev1
  obtain rfl := zv_r_e u2v
  refine zw_get S hK hw zk_6 (k := 0) (by decide) rfl zm_131 (Or.inl rfl) u2e zd_X6_latestCount_2 ?_
  replace hf := zo_b hf; obtain ⟨a3, na3, hf⟩ := hf
  refine W.eq (g2 := F0 m 5 ls [va_rf ((some a3)), va_rf ((some q))]) (by rw [na3] <;> rfl) ?_
  replace hf := zo_b hf; obtain ⟨r4, er4, hf⟩ := hf
  refine zw_callV (n := 0) (ci := 11) (q := zc_cl[11]) (As := []) (rest := [va_rf ((some q))]) S hK hw (zt_Jx4a65c_size_8abf5 l g h a3 _ er4) zm_424 zm_425 zm_426 zq_Jx4a65c_size_8abf5 zm_72 (by decide +kernel) ⟨Nat.le_of_ble_eq_true rfl, Nat.le_of_ble_eq_true rfl⟩ rfl rfl rfl (zi_Jx4a65c_size_8abf5 er4) hl.1 rfl (by simp [zv_cat, zv_ci, zv_cj]) zd_X6_latestCount_5 ⟨(Nat.le_refl 0), (Nat.le_refl 0)⟩ (fun H locs hw => ?_)
  replace hw : zc_W g h H locs := hw
  refine lv_iconst (v := 1) hx hb zd_X6_latestCount_8 (by decide) ?_
  refine lv_isub hx hb zd_X6_latestCount_9 ?_
  replace hf := zo_b hf; obtain ⟨r5, er5, hf⟩ := hf
  refine zw_callV (n := 1) (ci := 6) (q := zc_cl[6]) (As := [.int ((r4 - 1))]) (rest := []) S hK hw (zt_X6_revisionAt l g h q (r4 - 1) _ er5) zm_1080 zm_483 zm_484 zq_X6_revisionAt zm_69 (by decide +kernel) ⟨Nat.le_of_ble_eq_true rfl, Nat.le_of_ble_eq_true rfl⟩ rfl rfl rfl (zi_X6_revisionAt er5) hl.1 rfl (by simp [zv_cat, zv_ci, zv_cj]) zd_X6_latestCount_10 ⟨(Nat.le_refl 0), (Nat.le_refl 0)⟩ (fun H locs hw => ?_)
  replace hw : zc_W g h H locs := hw
  refine zl_astore_n (i := 1) (lv' := [(1, va_rf (r5)), (0, va_rf ((some q)))]) hx hb zd_X6_latestCount_13 rfl hl (by decide) rfl (fun ls hl => ?_)
  refine zl_aload_n hx hb zd_X6_latestCount_14 rfl (lv_at hl 0 rfl) ?_
  refine zl_ifnonnull (tgt := 22) hx hb zd_X6_latestCount_15 (by decide) (fun c6 => ?_) (fun c6 => ?_)
  · replace hf := zo_f c6 hf
    refine zl_aload_n hx hb zd_X6_latestCount_22 rfl (lv_at hl 0 rfl) ?_
    replace hf := zo_b hf; obtain ⟨a7, na7, hf⟩ := hf
    refine W.eq (g2 := F0 m 23 ls [va_rf ((some a7))]) (by rw [na7] <;> rfl) ?_
    replace hf := zo_b hf; obtain ⟨r8, er8, hf⟩ := hf
    refine zw_callV (n := 0) (ci := 4) (q := zc_cl[4]) (As := []) (rest := []) S hK hw (zt_X4_count l g h a7 _ er8) zm_1081 zm_618 zm_619 zq_X4_count zm_84 (by decide +kernel) ⟨Nat.le_of_ble_eq_true rfl, Nat.le_of_ble_eq_true rfl⟩ rfl rfl rfl (zi_X4_count er8) hl.1 rfl (by simp [zv_cat, zv_ci, zv_cj]) zd_X6_latestCount_23 ⟨(Nat.le_refl 0), (Nat.le_refl 0)⟩ (fun H locs hw => ?_)
    replace hw : zc_W g h H locs := hw
    have hres := Option.some.inj hf; subst hres
    exact zw_iret (v := r8) (ty := .int) hx hb hr hlk rfl hw zd_X6_latestCount_26 (Nat.le_refl 0) (Nat.le_refl 0)
  · replace hf := zo_t c6 hf
    refine lv_iconst (v := 0) hx hb zd_X6_latestCount_18 (by decide) ?_
    refine lv_goto (tgt := 26) hx hb zd_X6_latestCount_19 (by decide) ?_
    have hres := Option.some.inj hf; subst hres
    exact zw_iret (v := 0) (ty := .int) hx hb hr hlk rfl hw zd_X6_latestCount_26 (Nat.le_refl 0) (Nat.le_refl 0)
def zf_X6_mayBeRule (h : zc_H) (q : Nat) (x1 : Int32) (x2 : Int32) : Option (Int32) :=
  if ¬ zf_is h q 6 = true then none else
  if x1 = 0 then
    if x2 < 1 then
      some 0
    else
    if 9 < x2 then
      some 0
    else
    some 1
  else
  if x1 = 1 then
    if x2 < 0 then
      some 0
    else
    if 99 < x2 then
      some 0
    else
    some 1
  else
  if x1 = 2 then
    if x2 < 0 then
      some 0
    else
    if 20 < x2 then
      some 0
    else
    some 1
  else
  some 0
abbrev zr_X6_mayBeRule : Room := { frames := 0, cells := 0, slots := 0, locals := 0 }
theorem zi_X6_mayBeRule {h : zc_H} {q : Nat} {x1 : Int32} {x2 : Int32} {res : Int32} (hf : zf_X6_mayBeRule h q x1 x2 = some res) : zf_is h q 6 = true := Decidable.not_not.mp (zo_n hf).1
set_option maxHeartbeats 4000000 in
set_option maxRecDepth 20000 in
theorem zt_X6_mayBeRule (l : Launch) (g : zc_G) (h : zc_H) (q : Nat) (x1 : Int32) (x2 : Int32) (res : Int32) (hf : zf_X6_mayBeRule h q x1 x2 = some res) : zc_M l g yX6_mayBeRule cX6_mayBeRule 3 (some .boolean) zr_X6_mayBeRule h [va_rf ((some q)), .int (x1), .int (x2)] h (some (.int (res))) := by
  refine zc_M.of (by decide) (by simp [lg_sl, zv_cat, zv_ci, zv_cj]) ?_
  intro p e s m below meth c ls S hK hw hr hlk hnm hl
  replace S : CallFix p m c cX6_mayBeRule 3 s [va_rf ((some q)), .int (x1), .int (x2)].toArray (zc_ws yX6_mayBeRule cX6_mayBeRule 3 (some .boolean)) RX6 := S
  have hx := S.1
  have hb := S.2.1
  replace hl : lv_has ls 3 [(0, va_rf ((some q))), (1, .int (x1)), (2, .int (x2))] := by simpa [lv_args, zv_cat, zv_ci, zv_cj] using hl
  generalize s.heap = H at hw ⊢
  obtain ⟨locs, hlocs⟩ : ∃ L : List Loc, L = [] := ⟨_, rfl⟩
  rw [← hlocs] at hw ⊢
  unfold zf_X6_mayBeRule at hf
  obtain ⟨-, hf⟩ := zo_n hf
  refine lv_iload_n hx hb zd_X6_mayBeRule_0 rfl (lv_at hl 1 rfl) ?_
  by_cases c1 : x1 = 0
  · replace hf := zo_t c1 hf
    refine W.eq (g2 := F0 m 1 ls (.int 0 :: [])) (by rw [c1] <;> rfl) ?_
    refine lv_tableIn (off := 27) (tgt := 28) hx hb zd_X6_mayBeRule_1 (by decide) (by decide) (by decide) (by decide) ?_
    refine lv_iload_n hx hb zd_X6_mayBeRule_28 rfl (lv_at hl 2 rfl) ?_
    refine lv_iconst (v := 1) hx hb zd_X6_mayBeRule_29 (by decide) ?_
    refine lv_icmp_lt (tgt := 43) hx hb zd_X6_mayBeRule_30 (by decide) (fun c2 => ?_) (fun c2 => ?_)
    · replace hf := zo_t c2 hf
      refine lv_iconst (v := 0) hx hb zd_X6_mayBeRule_43 (by decide) ?_
      have hres := Option.some.inj hf; subst hres
      exact zw_iret (v := 0) (ty := .boolean) hx hb hr hlk rfl hw zd_X6_mayBeRule_44 (Nat.le_refl 0) (Nat.le_refl 0)
    · replace hf := zo_f c2 hf
      refine lv_iload_n hx hb zd_X6_mayBeRule_33 rfl (lv_at hl 2 rfl) ?_
      refine lv_bipush (v := 9) hx hb zd_X6_mayBeRule_34 (by decide) ?_
      refine lv_icmp_gt (tgt := 43) hx hb zd_X6_mayBeRule_36 (by decide) (fun c3 => ?_) (fun c3 => ?_)
      · replace hf := zo_t c3 hf
        refine lv_iconst (v := 0) hx hb zd_X6_mayBeRule_43 (by decide) ?_
        have hres := Option.some.inj hf; subst hres
        exact zw_iret (v := 0) (ty := .boolean) hx hb hr hlk rfl hw zd_X6_mayBeRule_44 (Nat.le_refl 0) (Nat.le_refl 0)
      · replace hf := zo_f c3 hf
        refine lv_iconst (v := 1) hx hb zd_X6_mayBeRule_39 (by decide) ?_
        refine lv_goto (tgt := 44) hx hb zd_X6_mayBeRule_40 (by decide) ?_
        have hres := Option.some.inj hf; subst hres
        exact zw_iret (v := 1) (ty := .boolean) hx hb hr hlk rfl hw zd_X6_mayBeRule_44 (Nat.le_refl 0) (Nat.le_refl 0)
  replace hf := zo_f c1 hf
  by_cases c4 : x1 = 1
  · replace hf := zo_t c4 hf
    refine W.eq (g2 := F0 m 1 ls (.int 1 :: [])) (by rw [c4] <;> rfl) ?_
    refine lv_tableIn (off := 44) (tgt := 45) hx hb zd_X6_mayBeRule_1 (by decide) (by decide) (by decide) (by decide) ?_
    refine lv_iload_n hx hb zd_X6_mayBeRule_45 rfl (lv_at hl 2 rfl) ?_
    refine lv_if_lt (tgt := 59) hx hb zd_X6_mayBeRule_46 (by decide) (fun c5 => ?_) (fun c5 => ?_)
    · replace hf := zo_t c5 hf
      refine lv_iconst (v := 0) hx hb zd_X6_mayBeRule_59 (by decide) ?_
      have hres := Option.some.inj hf; subst hres
      exact zw_iret (v := 0) (ty := .boolean) hx hb hr hlk rfl hw zd_X6_mayBeRule_60 (Nat.le_refl 0) (Nat.le_refl 0)
    · replace hf := zo_f c5 hf
      refine lv_iload_n hx hb zd_X6_mayBeRule_49 rfl (lv_at hl 2 rfl) ?_
      refine lv_bipush (v := 99) hx hb zd_X6_mayBeRule_50 (by decide) ?_
      refine lv_icmp_gt (tgt := 59) hx hb zd_X6_mayBeRule_52 (by decide) (fun c6 => ?_) (fun c6 => ?_)
      · replace hf := zo_t c6 hf
        refine lv_iconst (v := 0) hx hb zd_X6_mayBeRule_59 (by decide) ?_
        have hres := Option.some.inj hf; subst hres
        exact zw_iret (v := 0) (ty := .boolean) hx hb hr hlk rfl hw zd_X6_mayBeRule_60 (Nat.le_refl 0) (Nat.le_refl 0)
      · replace hf := zo_f c6 hf
        refine lv_iconst (v := 1) hx hb zd_X6_mayBeRule_55 (by decide) ?_
        refine lv_goto (tgt := 60) hx hb zd_X6_mayBeRule_56 (by decide) ?_
        have hres := Option.some.inj hf; subst hres
        exact zw_iret (v := 1) (ty := .boolean) hx hb hr hlk rfl hw zd_X6_mayBeRule_60 (Nat.le_refl 0) (Nat.le_refl 0)
  replace hf := zo_f c4 hf
  by_cases c7 : x1 = 2
  · replace hf := zo_t c7 hf
    refine W.eq (g2 := F0 m 1 ls (.int 2 :: [])) (by rw [c7] <;> rfl) ?_
    refine lv_tableIn (off := 60) (tgt := 61) hx hb zd_X6_mayBeRule_1 (by decide) (by decide) (by decide) (by decide) ?_
    refine lv_iload_n hx hb zd_X6_mayBeRule_61 rfl (lv_at hl 2 rfl) ?_
    refine lv_if_lt (tgt := 75) hx hb zd_X6_mayBeRule_62 (by decide) (fun c8 => ?_) (fun c8 => ?_)
    · replace hf := zo_t c8 hf
      refine lv_iconst (v := 0) hx hb zd_X6_mayBeRule_75 (by decide) ?_
      have hres := Option.some.inj hf; subst hres
      exact zw_iret (v := 0) (ty := .boolean) hx hb hr hlk rfl hw zd_X6_mayBeRule_76 (Nat.le_refl 0) (Nat.le_refl 0)
    · replace hf := zo_f c8 hf
      refine lv_iload_n hx hb zd_X6_mayBeRule_65 rfl (lv_at hl 2 rfl) ?_
      refine lv_bipush (v := 20) hx hb zd_X6_mayBeRule_66 (by decide) ?_
      refine lv_icmp_gt (tgt := 75) hx hb zd_X6_mayBeRule_68 (by decide) (fun c9 => ?_) (fun c9 => ?_)
      · replace hf := zo_t c9 hf
        refine lv_iconst (v := 0) hx hb zd_X6_mayBeRule_75 (by decide) ?_
        have hres := Option.some.inj hf; subst hres
        exact zw_iret (v := 0) (ty := .boolean) hx hb hr hlk rfl hw zd_X6_mayBeRule_76 (Nat.le_refl 0) (Nat.le_refl 0)
      · replace hf := zo_f c9 hf
        refine lv_iconst (v := 1) hx hb zd_X6_mayBeRule_71 (by decide) ?_
        refine lv_goto (tgt := 76) hx hb zd_X6_mayBeRule_72 (by decide) ?_
        have hres := Option.some.inj hf; subst hres
        exact zw_iret (v := 1) (ty := .boolean) hx hb hr hlk rfl hw zd_X6_mayBeRule_76 (Nat.le_refl 0) (Nat.le_refl 0)
  replace hf := zo_f c7 hf
  have zc1 : (x1 : Int32).toInt ≠ 0 := fun h => c1 (Int32.toInt_inj.mp (h.trans (by decide)))
  have zc4 : (x1 : Int32).toInt ≠ 1 := fun h => c4 (Int32.toInt_inj.mp (h.trans (by decide)))
  have zc7 : (x1 : Int32).toInt ≠ 2 := fun h => c7 (Int32.toInt_inj.mp (h.trans (by decide)))
  refine lv_tableOut (tgt := 77) hx hb zd_X6_mayBeRule_1 (by omega) (by decide) ?_
  refine lv_iconst (v := 0) hx hb zd_X6_mayBeRule_77 (by decide) ?_
  have hres := Option.some.inj hf; subst hres
  exact zw_iret (v := 0) (ty := .boolean) hx hb hr hlk rfl hw zd_X6_mayBeRule_78 (Nat.le_refl 0) (Nat.le_refl 0)
def zf_X6_ruleOf (h : zc_H) (q : Nat) (x1 : Int32) : Option (Int32) :=
  if ¬ zf_is h q 6 = true then none else
  if x1 = 0 then
    (zf_gi h q 6 3).bind fun v2 =>
    some v2
  else
  if x1 = 1 then
    (zf_gi h q 6 4).bind fun v5 =>
    some v5
  else
  (zf_gi h q 6 5).bind fun v7 =>
  some v7
abbrev zr_X6_ruleOf : Room := { frames := 0, cells := 0, slots := 0, locals := 0 }
theorem zi_X6_ruleOf {h : zc_H} {q : Nat} {x1 : Int32} {res : Int32} (hf : zf_X6_ruleOf h q x1 = some res) : zf_is h q 6 = true := Decidable.not_not.mp (zo_n hf).1
set_option maxHeartbeats 4000000 in
set_option maxRecDepth 20000 in
theorem zt_X6_ruleOf (l : Launch) (g : zc_G) (h : zc_H) (q : Nat) (x1 : Int32) (res : Int32) (hf : zf_X6_ruleOf h q x1 = some res) : zc_M l g yX6_ruleOf cX6_ruleOf 2 (some .int) zr_X6_ruleOf h [va_rf ((some q)), .int (x1)] h (some (.int (res))) := by
  refine zc_M.of (by decide) (by simp [lg_sl, zv_cat, zv_ci, zv_cj]) ?_
  intro p e s m below meth c ls S hK hw hr hlk hnm hl
  replace S : CallFix p m c cX6_ruleOf 2 s [va_rf ((some q)), .int (x1)].toArray (zc_ws yX6_ruleOf cX6_ruleOf 2 (some .int)) RX6 := S
  have hx := S.1
  have hb := S.2.1
  replace hl : lv_has ls 2 [(0, va_rf ((some q))), (1, .int (x1))] := by simpa [lv_args, zv_cat, zv_ci, zv_cj] using hl
  generalize s.heap = H at hw ⊢
  obtain ⟨locs, hlocs⟩ : ∃ L : List Loc, L = [] := ⟨_, rfl⟩
  rw [← hlocs] at hw ⊢
  unfold zf_X6_ruleOf at hf
  obtain ⟨-, hf⟩ := zo_n hf
  refine lv_iload_n hx hb zd_X6_ruleOf_0 rfl (lv_at hl 1 rfl) ?_
  by_cases c1 : x1 = 0
  · replace hf := zo_t c1 hf
    refine W.eq (g2 := F0 m 1 ls (.int 0 :: [])) (by rw [c1] <;> rfl) ?_
    refine lv_lookup (off := 27) (tgt := 28) hx hb zd_X6_ruleOf_1 (by decide) (by decide) (by decide) ?_
    refine zl_aload_n hx hb zd_X6_ruleOf_28 rfl (lv_at hl 0 rfl) ?_
    replace hf := zo_b hf; obtain ⟨v2, ev2, hf⟩ := hf
    obtain ⟨u3, u3e, u3v⟩ := zo_b ev2
    obtain rfl := zv_i_e u3v
    refine zw_get S hK hw zk_6 (k := 3) (by decide) rfl zm_138 (Or.inl rfl) u3e zd_X6_ruleOf_29 ?_
    have hres := Option.some.inj hf; subst hres
    exact zw_iret (v := v2) (ty := .int) hx hb hr hlk rfl hw zd_X6_ruleOf_32 (Nat.le_refl 0) (Nat.le_refl 0)
  replace hf := zo_f c1 hf
  by_cases c4 : x1 = 1
  · replace hf := zo_t c4 hf
    refine W.eq (g2 := F0 m 1 ls (.int 1 :: [])) (by rw [c4] <;> rfl) ?_
    refine lv_lookup (off := 32) (tgt := 33) hx hb zd_X6_ruleOf_1 (by decide) (by decide) (by decide) ?_
    refine zl_aload_n hx hb zd_X6_ruleOf_33 rfl (lv_at hl 0 rfl) ?_
    replace hf := zo_b hf; obtain ⟨v5, ev5, hf⟩ := hf
    obtain ⟨u6, u6e, u6v⟩ := zo_b ev5
    obtain rfl := zv_i_e u6v
    refine zw_get S hK hw zk_6 (k := 4) (by decide) rfl zm_140 (Or.inl rfl) u6e zd_X6_ruleOf_34 ?_
    have hres := Option.some.inj hf; subst hres
    exact zw_iret (v := v5) (ty := .int) hx hb hr hlk rfl hw zd_X6_ruleOf_37 (Nat.le_refl 0) (Nat.le_refl 0)
  replace hf := zo_f c4 hf
  have zc1 : (x1 : Int32).toInt ≠ 0 := fun h => c1 (Int32.toInt_inj.mp (h.trans (by decide)))
  have zc4 : (x1 : Int32).toInt ≠ 1 := fun h => c4 (Int32.toInt_inj.mp (h.trans (by decide)))
  refine lv_lookup (off := 37) (tgt := 38) hx hb zd_X6_ruleOf_1 (by decide) (by simp [Op.lookupswitch.offset, Ne.symm zc1, Ne.symm zc4]) (by decide) ?_
  refine zl_aload_n hx hb zd_X6_ruleOf_38 rfl (lv_at hl 0 rfl) ?_
  replace hf := zo_b hf; obtain ⟨v7, ev7, hf⟩ := hf
  obtain ⟨u8, u8e, u8v⟩ := zo_b ev7
  obtain rfl := zv_i_e u8v
  refine zw_get S hK hw zk_6 (k := 5) (by decide) rfl zm_142 (Or.inl rfl) u8e zd_X6_ruleOf_39 ?_
  have hres := Option.some.inj hf; subst hres
  exact zw_iret (v := v7) (ty := .int) hx hb hr hlk rfl hw zd_X6_ruleOf_42 (Nat.le_refl 0) (Nat.le_refl 0)
def zf_X6_changeRule (h : zc_H) (q : Nat) (x1 : Int32) (x2 : Int32) : Option (zc_H) :=
  if ¬ zf_is h q 6 = true then none else
  if x1 = 0 then
    (zf_p h q 6 3 (.int (x2))).bind fun h2 =>
    some h2
  else
  if x1 = 1 then
    (zf_p h q 6 4 (.int (x2))).bind fun h4 =>
    some h4
  else
  (zf_p h q 6 5 (.int (x2))).bind fun h5 =>
  some h5
abbrev zr_X6_changeRule : Room := { frames := 0, cells := 0, slots := 0, locals := 0 }
theorem zi_X6_changeRule {h : zc_H} {q : Nat} {x1 : Int32} {x2 : Int32} {res : zc_H} (hf : zf_X6_changeRule h q x1 x2 = some res) : zf_is h q 6 = true := Decidable.not_not.mp (zo_n hf).1
set_option maxHeartbeats 4000000 in
set_option maxRecDepth 20000 in
theorem zt_X6_changeRule (l : Launch) (g : zc_G) (h : zc_H) (q : Nat) (x1 : Int32) (x2 : Int32) (res : zc_H) (hf : zf_X6_changeRule h q x1 x2 = some res) : zc_M l g yX6_changeRule cX6_changeRule 3 none zr_X6_changeRule h [va_rf ((some q)), .int (x1), .int (x2)] res none := by
  refine zc_M.of (by decide) (by simp [lg_sl, zv_cat, zv_ci, zv_cj]) ?_
  intro p e s m below meth c ls S hK hw hr hlk hnm hl
  replace S : CallFix p m c cX6_changeRule 3 s [va_rf ((some q)), .int (x1), .int (x2)].toArray (zc_ws yX6_changeRule cX6_changeRule 3 none) RX6 := S
  have hx := S.1
  have hb := S.2.1
  replace hl : lv_has ls 3 [(0, va_rf ((some q))), (1, .int (x1)), (2, .int (x2))] := by simpa [lv_args, zv_cat, zv_ci, zv_cj] using hl
  generalize s.heap = H at hw ⊢
  obtain ⟨locs, hlocs⟩ : ∃ L : List Loc, L = [] := ⟨_, rfl⟩
  rw [← hlocs] at hw ⊢
  unfold zf_X6_changeRule at hf
  obtain ⟨-, hf⟩ := zo_n hf
  refine lv_iload_n hx hb zd_X6_changeRule_0 rfl (lv_at hl 1 rfl) ?_
  by_cases c1 : x1 = 0
  · replace hf := zo_t c1 hf
    refine W.eq (g2 := F0 m 1 ls (.int 0 :: [])) (by rw [c1] <;> rfl) ?_
    refine lv_lookup (off := 27) (tgt := 28) hx hb zd_X6_changeRule_1 (by decide) (by decide) (by decide) ?_
    refine zl_aload_n hx hb zd_X6_changeRule_28 rfl (lv_at hl 0 rfl) ?_
    refine lv_iload_n hx hb zd_X6_changeRule_29 rfl (lv_at hl 2 rfl) ?_
    replace hf := zo_b hf; obtain ⟨h2, eh2, hf⟩ := hf
    refine zw_put S hK hw zk_6 (k := 3) (by decide) rfl zm_138 (Or.inl rfl) eh2 (ty := .int) (by decide +kernel) rfl rfl zd_X6_changeRule_30 (fun H locs hw => ?_)
    refine lv_goto (tgt := 49) hx hb zd_X6_changeRule_33 (by decide) ?_
    have hres := Option.some.inj hf; subst hres
    exact zw_vret hx hb hr hlk hw zd_X6_changeRule_49 (Nat.le_refl 0) (Nat.le_refl 0)
  replace hf := zo_f c1 hf
  by_cases c3 : x1 = 1
  · replace hf := zo_t c3 hf
    refine W.eq (g2 := F0 m 1 ls (.int 1 :: [])) (by rw [c3] <;> rfl) ?_
    refine lv_lookup (off := 35) (tgt := 36) hx hb zd_X6_changeRule_1 (by decide) (by decide) (by decide) ?_
    refine zl_aload_n hx hb zd_X6_changeRule_36 rfl (lv_at hl 0 rfl) ?_
    refine lv_iload_n hx hb zd_X6_changeRule_37 rfl (lv_at hl 2 rfl) ?_
    replace hf := zo_b hf; obtain ⟨h4, eh4, hf⟩ := hf
    refine zw_put S hK hw zk_6 (k := 4) (by decide) rfl zm_140 (Or.inl rfl) eh4 (ty := .int) (by decide +kernel) rfl rfl zd_X6_changeRule_38 (fun H locs hw => ?_)
    refine lv_goto (tgt := 49) hx hb zd_X6_changeRule_41 (by decide) ?_
    have hres := Option.some.inj hf; subst hres
    exact zw_vret hx hb hr hlk hw zd_X6_changeRule_49 (Nat.le_refl 0) (Nat.le_refl 0)
  replace hf := zo_f c3 hf
  have zc1 : (x1 : Int32).toInt ≠ 0 := fun h => c1 (Int32.toInt_inj.mp (h.trans (by decide)))
  have zc3 : (x1 : Int32).toInt ≠ 1 := fun h => c3 (Int32.toInt_inj.mp (h.trans (by decide)))
  refine lv_lookup (off := 43) (tgt := 44) hx hb zd_X6_changeRule_1 (by decide) (by simp [Op.lookupswitch.offset, Ne.symm zc1, Ne.symm zc3]) (by decide) ?_
  refine zl_aload_n hx hb zd_X6_changeRule_44 rfl (lv_at hl 0 rfl) ?_
  refine lv_iload_n hx hb zd_X6_changeRule_45 rfl (lv_at hl 2 rfl) ?_
  replace hf := zo_b hf; obtain ⟨h5, eh5, hf⟩ := hf
  refine zw_put S hK hw zk_6 (k := 5) (by decide) rfl zm_142 (Or.inl rfl) eh5 (ty := .int) (by decide +kernel) rfl rfl zd_X6_changeRule_46 (fun H locs hw => ?_)
  have hres := Option.some.inj hf; subst hres
  exact zw_vret hx hb hr hlk hw zd_X6_changeRule_49 (Nat.le_refl 0) (Nat.le_refl 0)
def zf_X6_draw (h : zc_H) (q : Nat) (x1 : Int32) : Option (zc_H × Int32) :=
  if ¬ zf_is h q 6 = true then none else
  (zf_gi h q 6 6).bind fun v1 =>
  (zf_p h q 6 6 (.int (((v1 * 1103515245) + 12345)))).bind fun h3 =>
  if 0 < x1 then
    (zf_gi h3 q 6 6).bind fun v5 =>
    if x1 = 0 then none else
    some (h3, ((((v5).toUInt32 >>> ((16 : Int32).toUInt32 &&& Int32.toUInt32 31)).toInt32) - (((v5).toUInt32 >>> ((16 : Int32).toUInt32 &&& Int32.toUInt32 31)).toInt32) / x1 * x1))
  else
  some (h3, 0)
abbrev zr_X6_draw : Room := { frames := 0, cells := 0, slots := 0, locals := 0 }
theorem zi_X6_draw {h : zc_H} {q : Nat} {x1 : Int32} {res : zc_H × Int32} (hf : zf_X6_draw h q x1 = some res) : zf_is h q 6 = true := Decidable.not_not.mp (zo_n hf).1
set_option maxHeartbeats 4000000 in
set_option maxRecDepth 20000 in
theorem zt_X6_draw (l : Launch) (g : zc_G) (h : zc_H) (q : Nat) (x1 : Int32) (res : zc_H × Int32) (hf : zf_X6_draw h q x1 = some res) : zc_M l g yX6_draw cX6_draw 2 (some .int) zr_X6_draw h [va_rf ((some q)), .int (x1)] res.1 (some (.int (res.2))) := by
  refine zc_M.of (by decide) (by simp [lg_sl, zv_cat, zv_ci, zv_cj]) ?_
  intro p e s m below meth c ls S hK hw hr hlk hnm hl
  replace S : CallFix p m c cX6_draw 2 s [va_rf ((some q)), .int (x1)].toArray (zc_ws yX6_draw cX6_draw 2 (some .int)) RX6 := S
  have hx := S.1
  have hb := S.2.1
  replace hl : lv_has ls 2 [(0, va_rf ((some q))), (1, .int (x1))] := by simpa [lv_args, zv_cat, zv_ci, zv_cj] using hl
  generalize s.heap = H at hw ⊢
  obtain ⟨locs, hlocs⟩ : ∃ L : List Loc, L = [] := ⟨_, rfl⟩
  rw [← hlocs] at hw ⊢
  unfold zf_X6_draw at hf
  obtain ⟨-, hf⟩ := zo_n hf
  refine zl_aload_n hx hb zd_X6_draw_0 rfl (lv_at hl 0 rfl) ?_
  refine zl_aload_n hx hb zd_X6_draw_1 rfl (lv_at hl 0 rfl) ?_
  replace hf := zo_b hf; obtain ⟨v1, ev1, hf⟩ := hf
  obtain ⟨u2, u2e, u2v⟩ := zo_b ev1
  obtain rfl := zv_i_e u2v
  refine zw_get S hK hw zk_6 (k := 6) (by decide) rfl zm_144 (Or.inl rfl) u2e zd_X6_draw_2 ?_
  refine lv_ldc (v := 1103515245) hx hb S.2.2.2.1 (S.2.2.2.2 _ (List.mem_cons_of_mem _ zm_1000)) zd_X6_draw_5 ?_
  refine lv_imul hx hb zd_X6_draw_7 ?_
  refine lv_sipush (v := 12345) hx hb zd_X6_draw_8 (by decide) ?_
  refine lv_iadd hx hb zd_X6_draw_11 ?_
  replace hf := zo_b hf; obtain ⟨h3, eh3, hf⟩ := hf
  refine zw_put S hK hw zk_6 (k := 6) (by decide) rfl zm_144 (Or.inl rfl) eh3 (ty := .int) (by decide +kernel) rfl rfl zd_X6_draw_12 (fun H locs hw => ?_)
  refine lv_iload_n hx hb zd_X6_draw_15 rfl (lv_at hl 1 rfl) ?_
  refine lv_if_gt (tgt := 23) hx hb zd_X6_draw_16 (by decide) (fun c4 => ?_) (fun c4 => ?_)
  · replace hf := zo_t c4 hf
    refine zl_aload_n hx hb zd_X6_draw_23 rfl (lv_at hl 0 rfl) ?_
    replace hf := zo_b hf; obtain ⟨v5, ev5, hf⟩ := hf
    obtain ⟨u6, u6e, u6v⟩ := zo_b ev5
    obtain rfl := zv_i_e u6v
    refine zw_get S hK hw zk_6 (k := 6) (by decide) rfl zm_144 (Or.inl rfl) u6e zd_X6_draw_24 ?_
    refine lv_bipush (v := 16) hx hb zd_X6_draw_27 (by decide) ?_
    refine lv_iushr (v := (((v5).toUInt32 >>> ((16 : Int32).toUInt32 &&& Int32.toUInt32 31)).toInt32)) hx hb zd_X6_draw_29 rfl ?_
    refine lv_iload_n hx hb zd_X6_draw_30 rfl (lv_at hl 1 rfl) ?_
    replace hf := zo_n hf; obtain ⟨d7, hf⟩ := hf
    refine lv_irem hx hb zd_X6_draw_31 d7 ?_
    have hres := Option.some.inj hf; subst hres
    exact zw_iret (v := ((((v5).toUInt32 >>> ((16 : Int32).toUInt32 &&& Int32.toUInt32 31)).toInt32) - (((v5).toUInt32 >>> ((16 : Int32).toUInt32 &&& Int32.toUInt32 31)).toInt32) / x1 * x1)) (ty := .int) hx hb hr hlk rfl hw zd_X6_draw_32 (Nat.le_refl 0) (Nat.le_refl 0)
  · replace hf := zo_f c4 hf
    refine lv_iconst (v := 0) hx hb zd_X6_draw_19 (by decide) ?_
    refine lv_goto (tgt := 32) hx hb zd_X6_draw_20 (by decide) ?_
    have hres := Option.some.inj hf; subst hres
    exact zw_iret (v := 0) (ty := .int) hx hb hr hlk rfl hw zd_X6_draw_32 (Nat.le_refl 0) (Nat.le_refl 0)
def zf_X6_isSettled (h : zc_H) (q : Nat) (x1 : Int32) : Option (Int32) :=
  if ¬ zf_is h q 6 = true then none else
  (zf_gi h q 6 2).bind fun v1 =>
  if ((v1 >>> (x1 &&& 31)) &&& 1) = 1 then
    some 1
  else
  some 0
abbrev zr_X6_isSettled : Room := { frames := 0, cells := 0, slots := 0, locals := 0 }
theorem zi_X6_isSettled {h : zc_H} {q : Nat} {x1 : Int32} {res : Int32} (hf : zf_X6_isSettled h q x1 = some res) : zf_is h q 6 = true := Decidable.not_not.mp (zo_n hf).1
set_option maxHeartbeats 4000000 in
set_option maxRecDepth 20000 in
theorem zt_X6_isSettled (l : Launch) (g : zc_G) (h : zc_H) (q : Nat) (x1 : Int32) (res : Int32) (hf : zf_X6_isSettled h q x1 = some res) : zc_M l g yX6_isSettled cX6_isSettled 2 (some .boolean) zr_X6_isSettled h [va_rf ((some q)), .int (x1)] h (some (.int (res))) := by
  refine zc_M.of (by decide) (by simp [lg_sl, zv_cat, zv_ci, zv_cj]) ?_
  intro p e s m below meth c ls S hK hw hr hlk hnm hl
  replace S : CallFix p m c cX6_isSettled 2 s [va_rf ((some q)), .int (x1)].toArray (zc_ws yX6_isSettled cX6_isSettled 2 (some .boolean)) RX6 := S
  have hx := S.1
  have hb := S.2.1
  replace hl : lv_has ls 2 [(0, va_rf ((some q))), (1, .int (x1))] := by simpa [lv_args, zv_cat, zv_ci, zv_cj] using hl
  generalize s.heap = H at hw ⊢
  obtain ⟨locs, hlocs⟩ : ∃ L : List Loc, L = [] := ⟨_, rfl⟩
  rw [← hlocs] at hw ⊢
  unfold zf_X6_isSettled at hf
  obtain ⟨-, hf⟩ := zo_n hf
  refine zl_aload_n hx hb zd_X6_isSettled_0 rfl (lv_at hl 0 rfl) ?_
  replace hf := zo_b hf; obtain ⟨v1, ev1, hf⟩ := hf
  obtain ⟨u2, u2e, u2v⟩ := zo_b ev1
  obtain rfl := zv_i_e u2v
  refine zw_get S hK hw zk_6 (k := 2) (by decide) rfl zm_136 (Or.inl rfl) u2e zd_X6_isSettled_1 ?_
  refine lv_iload_n hx hb zd_X6_isSettled_4 rfl (lv_at hl 1 rfl) ?_
  refine lv_ishr hx hb zd_X6_isSettled_5 ?_
  refine lv_iconst (v := 1) hx hb zd_X6_isSettled_6 (by decide) ?_
  refine lv_iand hx hb zd_X6_isSettled_7 ?_
  refine lv_iconst (v := 1) hx hb zd_X6_isSettled_8 (by decide) ?_
  refine lv_icmp_ne (tgt := 16) hx hb zd_X6_isSettled_9 (by decide) (fun c3 => ?_) (fun c3 => ?_)
  · replace hf := zo_f c3 hf
    refine lv_iconst (v := 0) hx hb zd_X6_isSettled_16 (by decide) ?_
    have hres := Option.some.inj hf; subst hres
    exact zw_iret (v := 0) (ty := .boolean) hx hb hr hlk rfl hw zd_X6_isSettled_17 (Nat.le_refl 0) (Nat.le_refl 0)
  · replace hf := zo_t c3 hf
    refine lv_iconst (v := 1) hx hb zd_X6_isSettled_12 (by decide) ?_
    refine lv_goto (tgt := 17) hx hb zd_X6_isSettled_13 (by decide) ?_
    have hres := Option.some.inj hf; subst hres
    exact zw_iret (v := 1) (ty := .boolean) hx hb hr hlk rfl hw zd_X6_isSettled_17 (Nat.le_refl 0) (Nat.le_refl 0)
def zf_X6_unsettledOn_L4 (h : zc_H) (q : Nat) (y1 : Option Nat) : Nat → Int32 → Int32 → Option (Int32)
  | 0, _, _ => none
  | n + 1, y2, y3 =>
    (zf_gr h q 6 1).bind fun v1 =>
    v1.bind fun a3 =>
    (zf_Jx4a65c_size_8abf5 h a3).bind fun r4 =>
    if r4 ≤ y3 then
      some y2
    else
    (zf_gr h q 6 1).bind fun v6 =>
    v6.bind fun a8 =>
    (zf_Jx4a65c_get_915e3 h a8 y3).bind fun r9 =>
    if ¬ zf_cc h r9 3 = true then none else
    r9.bind fun a11 =>
    (zf_gr h a11 3 3).bind fun v12 =>
    let k44 := fun (y44_2 : Int32) =>
      zf_X6_unsettledOn_L4 h q y1 n y44_2 (y3 + 1)
    if v12 = y1 then
      (zf_X6_isSettled h q y3).bind fun r15 =>
      if r15 = 0 then
        k44 (y2 + 1)
      else
      k44 y2
    else
    k44 y2
def zf_X6_unsettledOn (h : zc_H) (q : Nat) (x1 : Option Nat) : Option (Int32) :=
  if ¬ zf_is h q 6 = true then none else
  (zf_X6_unsettledOn_L4 h q x1 2000 0 0).bind fun w17 =>
  some w17
abbrev zr_X6_unsettledOn : Room := { frames := 3, cells := 0, slots := 0, locals := 64 }
theorem zi_X6_unsettledOn {h : zc_H} {q : Nat} {x1 : Option Nat} {res : Int32} (hf : zf_X6_unsettledOn h q x1 = some res) : zf_is h q 6 = true := Decidable.not_not.mp (zo_n hf).1
set_option maxHeartbeats 4000000 in
set_option maxRecDepth 20000 in
theorem zt_X6_unsettledOn (l : Launch) (g : zc_G) (h : zc_H) (q : Nat) (x1 : Option Nat) (res : Int32) (hf : zf_X6_unsettledOn h q x1 = some res) : zc_M l g yX6_unsettledOn cX6_unsettledOn 4 (some .int) zr_X6_unsettledOn h [va_rf ((some q)), va_rf (x1)] h (some (.int (res))) := by
  refine zc_M.of (by decide) (by simp [lg_sl, zv_cat, zv_ci, zv_cj]) ?_
  intro p e s m below meth c ls S hK hw hr hlk hnm hl
  replace S : CallFix p m c cX6_unsettledOn 4 s [va_rf ((some q)), va_rf (x1)].toArray (zc_ws yX6_unsettledOn cX6_unsettledOn 4 (some .int)) RX6 := S
  have hx := S.1
  have hb := S.2.1
  replace hl : lv_has ls 4 [(0, va_rf ((some q))), (1, va_rf (x1))] := by simpa [lv_args, zv_cat, zv_ci, zv_cj] using hl
  generalize s.heap = H at hw ⊢
  obtain ⟨locs, hlocs⟩ : ∃ L : List Loc, L = [] := ⟨_, rfl⟩
  rw [← hlocs] at hw ⊢
  have L4 : ∀ (h : zc_H) (y1 : Option Nat) (n : Nat) (y2 : Int32) (y3 : Int32) (w : Int32) (H : Heap) (locs : List Loc) (ls : Array Slot), zf_X6_unsettledOn_L4 h q y1 n y2 y3 = some w → zc_W g h H locs → lv_has ls 4 [(0, va_rf ((some q))), (1, va_rf (y1)), (2, .int (y2)), (3, .int (y3))] → (∀ (H : Heap) (locs : List Loc) (ls : Array Slot), zc_W g h H locs → lv_has ls 4 [(2, .int (w))] → W p l e zr_X6_unsettledOn s m [va_rf ((some q)), va_rf (x1)].toArray below meth c H locs 0 0 (zc_Q g below zr_X6_unsettledOn (some (.int (res))) h [va_rf ((some q)), va_rf (x1)] s) (F0 m 50 ls [])) → W p l e zr_X6_unsettledOn s m [va_rf ((some q)), va_rf (x1)].toArray below meth c H locs 0 0 (zc_Q g below zr_X6_unsettledOn (some (.int (res))) h [va_rf ((some q)), va_rf (x1)] s) (F0 m 4 ls []) := by
    intro h y1 n
    induction n with
    | zero =>
      intro y2 y3 w H locs ls hf
      cases hf
    | succ n ih =>
      intro y2 y3 w H locs ls hf hw hl  kk
      unfold zf_X6_unsettledOn_L4 at hf
      refine lv_iload_n hx hb zd_X6_unsettledOn_4 rfl (lv_at hl 3 rfl) ?_
      refine zl_aload_n hx hb zd_X6_unsettledOn_5 rfl (lv_at hl 0 rfl) ?_
      replace hf := zo_b hf; obtain ⟨v1, ev1, hf⟩ := hf
      obtain ⟨u2, u2e, u2v⟩ := zo_b ev1
      obtain rfl := zv_r_e u2v
      refine zw_get S hK hw zk_6 (k := 1) (by decide) rfl zm_133 (Or.inl rfl) u2e zd_X6_unsettledOn_6 ?_
      replace hf := zo_b hf; obtain ⟨a3, na3, hf⟩ := hf
      refine W.eq (g2 := F0 m 9 ls [va_rf ((some a3)), .int (y3)]) (by rw [na3] <;> rfl) ?_
      replace hf := zo_b hf; obtain ⟨r4, er4, hf⟩ := hf
      refine zw_callV (n := 0) (ci := 11) (q := zc_cl[11]) (As := []) (rest := [.int (y3)]) S hK hw (zt_Jx4a65c_size_8abf5 l g h a3 _ er4) zm_424 zm_425 zm_426 zq_Jx4a65c_size_8abf5 zm_72 (by decide +kernel) ⟨Nat.le_of_ble_eq_true rfl, Nat.le_of_ble_eq_true rfl⟩ rfl rfl rfl (zi_Jx4a65c_size_8abf5 er4) hl.1 rfl (by simp [zv_cat, zv_ci, zv_cj]) zd_X6_unsettledOn_9 ⟨(Nat.le_refl 0), (Nat.le_refl 0)⟩ (fun H locs hw => ?_)
      replace hw : zc_W g h H locs := hw
      refine lv_icmp_ge (tgt := 50) hx hb zd_X6_unsettledOn_12 (by decide) (fun c5 => ?_) (fun c5 => ?_)
      · replace hf := zo_t c5 hf
        have hres := Option.some.inj hf; subst hres
        exact kk _ _ _ hw (lv_sub hl [2] rfl)
      · replace hf := zo_f c5 hf
        refine zl_aload_n hx hb zd_X6_unsettledOn_15 rfl (lv_at hl 0 rfl) ?_
        replace hf := zo_b hf; obtain ⟨v6, ev6, hf⟩ := hf
        obtain ⟨u7, u7e, u7v⟩ := zo_b ev6
        obtain rfl := zv_r_e u7v
        refine zw_get S hK hw zk_6 (k := 1) (by decide) rfl zm_133 (Or.inl rfl) u7e zd_X6_unsettledOn_16 ?_
        refine lv_iload_n hx hb zd_X6_unsettledOn_19 rfl (lv_at hl 3 rfl) ?_
        replace hf := zo_b hf; obtain ⟨a8, na8, hf⟩ := hf
        refine W.eq (g2 := F0 m 20 ls [.int (y3), va_rf ((some a8))]) (by rw [na8] <;> rfl) ?_
        replace hf := zo_b hf; obtain ⟨r9, er9, hf⟩ := hf
        refine zw_callV (n := 1) (ci := 11) (q := zc_cl[11]) (As := [.int (y3)]) (rest := []) S hK hw (zt_Jx4a65c_get_915e3 l g h a8 y3 _ er9) zm_428 zm_429 zm_430 zq_Jx4a65c_get_915e3 zm_72 (by decide +kernel) ⟨Nat.le_of_ble_eq_true rfl, Nat.le_of_ble_eq_true rfl⟩ rfl rfl rfl (zi_Jx4a65c_get_915e3 er9) hl.1 rfl (by simp [zv_cat, zv_ci, zv_cj]) zd_X6_unsettledOn_20 ⟨(Nat.le_refl 0), (Nat.le_refl 0)⟩ (fun H locs hw => ?_)
        replace hw : zc_W g h H locs := hw
        replace hf := zo_n hf; obtain ⟨z10, hf⟩ := hf
        refine zw_cast (q := zc_cl[3]) S hK hw zm_442 rfl rfl (Decidable.not_not.mp z10) zd_X6_unsettledOn_23 ?_
        replace hf := zo_b hf; obtain ⟨a11, na11, hf⟩ := hf
        refine W.eq (g2 := F0 m 26 ls [va_rf ((some a11))]) (by rw [na11] <;> rfl) ?_
        replace hf := zo_b hf; obtain ⟨v12, ev12, hf⟩ := hf
        obtain ⟨u13, u13e, u13v⟩ := zo_b ev12
        obtain rfl := zv_r_e u13v
        refine zw_get S hK hw zk_3 (k := 3) (by decide) rfl zm_767 (Or.inl rfl) u13e zd_X6_unsettledOn_26 ?_
        refine zl_aload_n hx hb zd_X6_unsettledOn_29 rfl (lv_at hl 1 rfl) ?_
        have k44h : ∀ (y44_2 : Int32) (H : Heap) (locs : List Loc) (ls : Array Slot), (
            zf_X6_unsettledOn_L4 h q y1 n y44_2 (y3 + 1)
            ) = some w → zc_W g h H locs → lv_has ls 4 [(0, va_rf ((some q))), (1, va_rf (y1)), (2, .int (y44_2)), (3, .int (y3))] → W p l e zr_X6_unsettledOn s m [va_rf ((some q)), va_rf (x1)].toArray below meth c H locs ((0 + 0) + 0) ((0 + 0) + 0) (zc_Q g below zr_X6_unsettledOn (some (.int (res))) h [va_rf ((some q)), va_rf (x1)] s) (F0 m 44 ls []) := by
          intro y44_2 H locs ls hf hw hl
          refine lv_iinc (i := 3) (v := (y3 + 1)) (lv' := [(3, .int ((y3 + 1))), (0, va_rf ((some q))), (1, va_rf (y1)), (2, .int (y44_2))]) hx hb zd_X6_unsettledOn_44 hl (k := 3) rfl (congrArg (_ + ·) (by decide)) (by decide) rfl (fun ls hl => ?_)
          refine lv_goto (tgt := 4) hx hb zd_X6_unsettledOn_47 (by decide) ?_
          exact ih y44_2 (y3 + 1) _ _ _ _ hf hw (lv_sub hl [1, 2, 3, 0] rfl) kk
        refine lv_acmp_ne (tgt := 44) hx hb zd_X6_unsettledOn_30 (by decide) (fun c14 => ?_) (fun c14 => ?_)
        · replace hf := zo_f c14 hf
          exact k44h y2 _ _ _ hf hw (lv_sub hl [0, 1, 2, 3] rfl)
        · replace hf := zo_t c14 hf
          refine zl_aload_n hx hb zd_X6_unsettledOn_33 rfl (lv_at hl 0 rfl) ?_
          refine lv_iload_n hx hb zd_X6_unsettledOn_34 rfl (lv_at hl 3 rfl) ?_
          replace hf := zo_b hf; obtain ⟨r15, er15, hf⟩ := hf
          refine zw_callV (n := 1) (ci := 6) (q := zc_cl[6]) (As := [.int (y3)]) (rest := []) S hK hw (zt_X6_isSettled l g h q y3 _ er15) zm_975 zm_793 zm_794 zq_X6_isSettled zm_69 (by decide +kernel) ⟨Nat.le_of_ble_eq_true rfl, Nat.le_of_ble_eq_true rfl⟩ rfl rfl rfl (zi_X6_isSettled er15) hl.1 rfl (by simp [zv_cat, zv_ci, zv_cj]) zd_X6_unsettledOn_35 ⟨(Nat.le_refl 0), (Nat.le_refl 0)⟩ (fun H locs hw => ?_)
          replace hw : zc_W g h H locs := hw
          refine lv_if_ne (tgt := 44) hx hb zd_X6_unsettledOn_38 (by decide) (fun c16 => ?_) (fun c16 => ?_)
          · replace hf := zo_f c16 hf
            exact k44h y2 _ _ _ hf hw (lv_sub hl [0, 1, 2, 3] rfl)
          · replace hf := zo_t c16 hf
            refine lv_iinc (i := 2) (v := (y2 + 1)) (lv' := [(2, .int ((y2 + 1))), (0, va_rf ((some q))), (1, va_rf (y1)), (3, .int (y3))]) hx hb zd_X6_unsettledOn_41 hl (k := 2) rfl (congrArg (_ + ·) (by decide)) (by decide) (by simp [List.filter, zv_cat, zv_ci, zv_cj]) (fun ls hl => ?_)
            exact k44h (y2 + 1) _ _ _ hf hw (lv_sub hl [1, 2, 0, 3] rfl)
  unfold zf_X6_unsettledOn at hf
  obtain ⟨-, hf⟩ := zo_n hf
  refine lv_iconst (v := 0) hx hb zd_X6_unsettledOn_0 (by decide) ?_
  refine lv_istore_n (i := 2) (lv' := [(2, .int (0)), (0, va_rf ((some q))), (1, va_rf (x1))]) hx hb zd_X6_unsettledOn_1 rfl hl (by decide) (by simp [List.filter, zv_cat, zv_ci, zv_cj]) (fun ls hl => ?_)
  refine lv_iconst (v := 0) hx hb zd_X6_unsettledOn_2 (by decide) ?_
  refine lv_istore_n (i := 3) (lv' := [(3, .int (0)), (2, .int (0)), (0, va_rf ((some q))), (1, va_rf (x1))]) hx hb zd_X6_unsettledOn_3 rfl hl (by decide) rfl (fun ls hl => ?_)
  replace hf := zo_b hf; obtain ⟨w17, w17e, hf⟩ := hf
  refine L4 h x1 2000 0 0 _ _ _ _ w17e hw (lv_sub hl [2, 3, 1, 0] rfl) (fun H locs ls hw hl => ?_)
  refine lv_iload_n hx hb zd_X6_unsettledOn_50 rfl (lv_at hl 0 rfl) ?_
  have hres := Option.some.inj hf; subst hres
  exact zw_iret (v := w17) (ty := .int) hx hb hr hlk rfl hw zd_X6_unsettledOn_51 (Nat.le_refl 0) (Nat.le_refl 0)
def zf_X6_depthOf_L8 (h : zc_H) (q : Nat) : Nat → Int32 → Option Nat → Option (Int32)
  | 0, _, _ => none
  | n + 1, y2, y3 =>
    if y3 = none then
      some y2
    else
    y3.bind fun a3 =>
    (zf_gi h a3 3 5).bind fun v4 =>
    if v4 = (-1) then
      some y2
    else
    if 16 ≤ y2 then
      some y2
    else
    (zf_gi h a3 3 5).bind fun v8 =>
    (zf_X6_remarkAt h q v8).bind fun r10 =>
    zf_X6_depthOf_L8 h q n (y2 + 1) r10
def zf_X6_depthOf (h : zc_H) (q : Nat) (x1 : Int32) : Option (Int32) :=
  if ¬ zf_is h q 6 = true then none else
  (zf_X6_remarkAt h q x1).bind fun r1 =>
  (zf_X6_depthOf_L8 h q 2000 0 r1).bind fun w11 =>
  some w11
abbrev zr_X6_depthOf : Room := { frames := 4, cells := 0, slots := 0, locals := 85 }
theorem zi_X6_depthOf {h : zc_H} {q : Nat} {x1 : Int32} {res : Int32} (hf : zf_X6_depthOf h q x1 = some res) : zf_is h q 6 = true := Decidable.not_not.mp (zo_n hf).1
set_option maxHeartbeats 4000000 in
set_option maxRecDepth 20000 in
theorem zt_X6_depthOf (l : Launch) (g : zc_G) (h : zc_H) (q : Nat) (x1 : Int32) (res : Int32) (hf : zf_X6_depthOf h q x1 = some res) : zc_M l g yX6_depthOf cX6_depthOf 4 (some .int) zr_X6_depthOf h [va_rf ((some q)), .int (x1)] h (some (.int (res))) := by
  refine zc_M.of (by decide) (by simp [lg_sl, zv_cat, zv_ci, zv_cj]) ?_
  intro p e s m below meth c ls S hK hw hr hlk hnm hl
  replace S : CallFix p m c cX6_depthOf 4 s [va_rf ((some q)), .int (x1)].toArray (zc_ws yX6_depthOf cX6_depthOf 4 (some .int)) RX6 := S
  have hx := S.1
  have hb := S.2.1
  replace hl : lv_has ls 4 [(0, va_rf ((some q))), (1, .int (x1))] := by simpa [lv_args, zv_cat, zv_ci, zv_cj] using hl
  generalize s.heap = H at hw ⊢
  obtain ⟨locs, hlocs⟩ : ∃ L : List Loc, L = [] := ⟨_, rfl⟩
  rw [← hlocs] at hw ⊢
  have L8 : ∀ (h : zc_H) (n : Nat) (y2 : Int32) (y3 : Option Nat) (w : Int32) (H : Heap) (locs : List Loc) (ls : Array Slot), zf_X6_depthOf_L8 h q n y2 y3 = some w → zc_W g h H locs → lv_has ls 4 [(0, va_rf ((some q))), (2, .int (y2)), (3, va_rf (y3))] → (∀ (H : Heap) (locs : List Loc) (ls : Array Slot), zc_W g h H locs → lv_has ls 4 [(2, .int (w))] → W p l e zr_X6_depthOf s m [va_rf ((some q)), .int (x1)].toArray below meth c H locs 0 0 (zc_Q g below zr_X6_depthOf (some (.int (res))) h [va_rf ((some q)), .int (x1)] s) (F0 m 41 ls [])) → W p l e zr_X6_depthOf s m [va_rf ((some q)), .int (x1)].toArray below meth c H locs 0 0 (zc_Q g below zr_X6_depthOf (some (.int (res))) h [va_rf ((some q)), .int (x1)] s) (F0 m 8 ls []) := by
    intro h n
    induction n with
    | zero =>
      intro y2 y3 w H locs ls hf
      cases hf
    | succ n ih =>
      intro y2 y3 w H locs ls hf hw hl  kk
      unfold zf_X6_depthOf_L8 at hf
      refine zl_aload_n hx hb zd_X6_depthOf_8 rfl (lv_at hl 2 rfl) ?_
      refine zl_ifnull (tgt := 41) hx hb zd_X6_depthOf_9 (by decide) (fun c2 => ?_) (fun c2 => ?_)
      · replace hf := zo_t c2 hf
        have hres := Option.some.inj hf; subst hres
        exact kk _ _ _ hw (lv_sub hl [1] rfl)
      · replace hf := zo_f c2 hf
        refine zl_aload_n hx hb zd_X6_depthOf_12 rfl (lv_at hl 2 rfl) ?_
        replace hf := zo_b hf; obtain ⟨a3, na3, hf⟩ := hf
        refine W.eq (g2 := F0 m 13 ls [va_rf ((some a3))]) (by rw [na3] <;> rfl) ?_
        replace hf := zo_b hf; obtain ⟨v4, ev4, hf⟩ := hf
        obtain ⟨u5, u5e, u5v⟩ := zo_b ev4
        obtain rfl := zv_i_e u5v
        refine zw_get S hK hw zk_3 (k := 5) (by decide) rfl zm_773 (Or.inl rfl) u5e zd_X6_depthOf_13 ?_
        refine lv_iconst (v := (-1)) hx hb zd_X6_depthOf_16 (by decide) ?_
        refine lv_icmp_eq (tgt := 41) hx hb zd_X6_depthOf_17 (by decide) (fun c6 => ?_) (fun c6 => ?_)
        · replace hf := zo_t c6 hf
          have hres := Option.some.inj hf; subst hres
          exact kk _ _ _ hw (lv_sub hl [1] rfl)
        · replace hf := zo_f c6 hf
          refine lv_iload_n hx hb zd_X6_depthOf_20 rfl (lv_at hl 1 rfl) ?_
          refine lv_bipush (v := 16) hx hb zd_X6_depthOf_21 (by decide) ?_
          refine lv_icmp_ge (tgt := 41) hx hb zd_X6_depthOf_23 (by decide) (fun c7 => ?_) (fun c7 => ?_)
          · replace hf := zo_t c7 hf
            have hres := Option.some.inj hf; subst hres
            exact kk _ _ _ hw (lv_sub hl [1] rfl)
          · replace hf := zo_f c7 hf
            refine lv_iinc (i := 2) (v := (y2 + 1)) (lv' := [(2, .int ((y2 + 1))), (0, va_rf ((some q))), (3, va_rf (y3))]) hx hb zd_X6_depthOf_26 hl (k := 1) rfl (congrArg (_ + ·) (by decide)) (by decide) rfl (fun ls hl => ?_)
            refine zl_aload_n hx hb zd_X6_depthOf_29 rfl (lv_at hl 1 rfl) ?_
            refine zl_aload_n hx hb zd_X6_depthOf_30 rfl (lv_at hl 2 rfl) ?_
            refine W.eq (g2 := F0 m 31 ls [va_rf ((some a3)), va_rf ((some q))]) (by rw [na3] <;> rfl) ?_
            replace hf := zo_b hf; obtain ⟨v8, ev8, hf⟩ := hf
            obtain ⟨u9, u9e, u9v⟩ := zo_b ev8
            obtain rfl := zv_i_e u9v
            refine zw_get S hK hw zk_3 (k := 5) (by decide) rfl zm_773 (Or.inl rfl) u9e zd_X6_depthOf_31 ?_
            replace hf := zo_b hf; obtain ⟨r10, er10, hf⟩ := hf
            refine zw_callV (n := 1) (ci := 6) (q := zc_cl[6]) (As := [.int (v8)]) (rest := []) S hK hw (zt_X6_remarkAt l g h q v8 _ er10) zm_800 zm_421 zm_422 zq_X6_remarkAt zm_69 (by decide +kernel) ⟨Nat.le_of_ble_eq_true rfl, Nat.le_of_ble_eq_true rfl⟩ rfl rfl rfl (zi_X6_remarkAt er10) hl.1 rfl (by simp [zv_cat, zv_ci, zv_cj]) zd_X6_depthOf_34 ⟨(Nat.le_refl 0), (Nat.le_refl 0)⟩ (fun H locs hw => ?_)
            replace hw : zc_W g h H locs := hw
            refine zl_astore_n (i := 3) (lv' := [(3, va_rf (r10)), (2, .int ((y2 + 1))), (0, va_rf ((some q)))]) hx hb zd_X6_depthOf_37 rfl hl (by decide) rfl (fun ls hl => ?_)
            refine lv_goto (tgt := 8) hx hb zd_X6_depthOf_38 (by decide) ?_
            exact ih (y2 + 1) r10 _ _ _ _ hf hw (lv_sub hl [2, 1, 0] rfl) kk
  unfold zf_X6_depthOf at hf
  obtain ⟨-, hf⟩ := zo_n hf
  refine lv_iconst (v := 0) hx hb zd_X6_depthOf_0 (by decide) ?_
  refine lv_istore_n (i := 2) (lv' := [(2, .int (0)), (0, va_rf ((some q))), (1, .int (x1))]) hx hb zd_X6_depthOf_1 rfl hl (by decide) rfl (fun ls hl => ?_)
  refine zl_aload_n hx hb zd_X6_depthOf_2 rfl (lv_at hl 1 rfl) ?_
  refine lv_iload_n hx hb zd_X6_depthOf_3 rfl (lv_at hl 2 rfl) ?_
  replace hf := zo_b hf; obtain ⟨r1, er1, hf⟩ := hf
  refine zw_callV (n := 1) (ci := 6) (q := zc_cl[6]) (As := [.int (x1)]) (rest := []) S hK hw (zt_X6_remarkAt l g h q x1 _ er1) zm_800 zm_421 zm_422 zq_X6_remarkAt zm_69 (by decide +kernel) ⟨Nat.le_of_ble_eq_true rfl, Nat.le_of_ble_eq_true rfl⟩ rfl rfl rfl (zi_X6_remarkAt er1) hl.1 rfl (by simp [zv_cat, zv_ci, zv_cj]) zd_X6_depthOf_4 ⟨(Nat.le_refl 0), (Nat.le_refl 0)⟩ (fun H locs hw => ?_)
  replace hw : zc_W g h H locs := hw
  refine zl_astore_n (i := 3) (lv' := [(3, va_rf (r1)), (2, .int (0)), (0, va_rf ((some q))), (1, .int (x1))]) hx hb zd_X6_depthOf_7 rfl hl (by decide) rfl (fun ls hl => ?_)
  replace hf := zo_b hf; obtain ⟨w11, w11e, hf⟩ := hf
  refine L8 h  2000 0 r1 _ _ _ _ w11e hw (lv_sub hl [2, 1, 0] rfl) (fun H locs ls hw hl => ?_)
  refine lv_iload_n hx hb zd_X6_depthOf_41 rfl (lv_at hl 0 rfl) ?_
  have hres := Option.some.inj hf; subst hres
  exact zw_iret (v := w11) (ty := .int) hx hb hr hlk rfl hw zd_X6_depthOf_42 (Nat.le_refl 0) (Nat.le_refl 0)
