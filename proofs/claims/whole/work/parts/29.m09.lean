def zf_X1_init (h : zc_H) (q : Nat) : Option (zc_H) :=
  if ¬ zf_is h q 1 = true then none else
  (some (zf_new h (.inl (0, 625, .inl (fun _ => 0))))).bind fun h1 =>
  (zf_p h1 q 1 0 (va_rf ((some h.2.1)))).bind fun h2 =>
  (some (zf_new h2 (.inl (0, 24, .inl (fun _ => 0))))).bind fun h3 =>
  (zf_p h3 q 1 1 (va_rf ((some h2.2.1)))).bind fun h4 =>
  (some (zf_new h4 (.inl (2, 24, .inl (fun _ => 0))))).bind fun h5 =>
  (zf_p h5 q 1 2 (va_rf ((some h4.2.1)))).bind fun h6 =>
  some h6
abbrev zr_X1_init : Room := { frames := 1, cells := 3, slots := 673, locals := 40 }
theorem zi_X1_init {h : zc_H} {q : Nat} {res : zc_H} (hf : zf_X1_init h q = some res) : zf_is h q 1 = true := Decidable.not_not.mp (zo_n hf).1
set_option maxHeartbeats 4000000 in
set_option maxRecDepth 20000 in
theorem zt_X1_init (l : Launch) (g : zc_G) (h : zc_H) (q : Nat) (res : zc_H) (hf : zf_X1_init h q = some res) : zc_M l g yX1_init cX1_init 1 none zr_X1_init h [va_rf ((some q))] res none := by
  refine zc_M.of (by decide) (by simp [lg_sl, zv_cat, zv_ci, zv_cj]) ?_
  intro p e s m below meth c ls S hK hw hr hlk hnm hl
  replace S : CallFix p m c cX1_init 1 s [va_rf ((some q))].toArray (zc_ws yX1_init cX1_init 1 none) RX1 := S
  have hx := S.1
  have hb := S.2.1
  replace hl : lv_has ls 1 [(0, va_rf ((some q)))] := by simpa [lv_args, zv_cat, zv_ci, zv_cj] using hl
  generalize s.heap = H at hw ⊢
  obtain ⟨locs, hlocs⟩ : ∃ L : List Loc, L = [] := ⟨_, rfl⟩
  rw [← hlocs] at hw ⊢
  unfold zf_X1_init at hf
  obtain ⟨-, hf⟩ := zo_n hf
  refine zl_aload_n hx hb zd_X1_init_0 rfl (lv_at hl 0 rfl) ?_
  refine W.objInit hx hb S.2.2.2.1 (S.2.2.2.2 _ (List.mem_cons_of_mem _ zm_182)) (S.2.2.2.2 _ (List.mem_cons_of_mem _ zm_95)) (S.2.2.2.2 _ (List.mem_cons_of_mem _ zm_96)) rfl (by rw [S.2.2.1]; exact hl.1) rfl zd_X1_init_1 (Nat.le_of_ble_eq_true rfl) (by simp [F0, JFrame.monitorRoom, zv_cat, zv_ci, zv_cj, zr_X1_init]) ?_
  refine W.eq (g2 := F0 m 4 ls []) rfl ?_
  refine zl_aload_n hx hb zd_X1_init_4 rfl (lv_at hl 0 rfl) ?_
  refine lv_sipush (v := 625) hx hb zd_X1_init_5 (by decide) ?_
  replace hf := zo_b hf; obtain ⟨h1, eh1, hf⟩ := hf
  refine zw_newa (atype := .int) (t := 0) (a0 := (625, .inl (fun _ => 0))) (ty := .int) (N := 625) (K := 625) S hK hw zm_175 rfl rfl (Nat.le_of_ble_eq_true rfl) (fun h => h) (fun _ => rfl) (by decide) (by decide) (Nat.le_refl _) (by decide) (by show _ ≤ (3 : Nat); omega) (by show _ ≤ (673 : Nat); omega) zd_X1_init_8 (fun H hw => ?_)
  replace hw : zc_W g h1 H locs := (Option.some.inj eh1) ▸ hw
  replace hf := zo_b hf; obtain ⟨h2, eh2, hf⟩ := hf
  refine zw_putF S hK hw zk_1 (k := 0) (by decide) rfl zm_183 hnm eh2 (ty := (.array .int)) (by decide +kernel) (zv_rnA _ _) (zv_rfA _ _) zd_X1_init_10 (fun H locs hw => ?_)
  refine zl_aload_n hx hb zd_X1_init_13 rfl (lv_at hl 0 rfl) ?_
  refine lv_bipush (v := 24) hx hb zd_X1_init_14 (by decide) ?_
  replace hf := zo_b hf; obtain ⟨h3, eh3, hf⟩ := hf
  refine zw_newa (atype := .int) (t := 0) (a0 := (24, .inl (fun _ => 0))) (ty := .int) (N := 24) (K := 24) S hK hw zm_175 rfl rfl (Nat.le_of_ble_eq_true rfl) (fun h => h) (fun _ => rfl) (by decide) (by decide) (Nat.le_refl _) (by decide) (by show _ ≤ (3 : Nat); omega) (by show _ ≤ (673 : Nat); omega) zd_X1_init_16 (fun H hw => ?_)
  replace hw : zc_W g h3 H locs := (Option.some.inj eh3) ▸ hw
  replace hf := zo_b hf; obtain ⟨h4, eh4, hf⟩ := hf
  refine zw_putF S hK hw zk_1 (k := 1) (by decide) rfl zm_184 hnm eh4 (ty := (.array .int)) (by decide +kernel) (zv_rnA _ _) (zv_rfA _ _) zd_X1_init_18 (fun H locs hw => ?_)
  refine zl_aload_n hx hb zd_X1_init_21 rfl (lv_at hl 0 rfl) ?_
  refine lv_bipush (v := 24) hx hb zd_X1_init_22 (by decide) ?_
  replace hf := zo_b hf; obtain ⟨h5, eh5, hf⟩ := hf
  refine zw_newa (atype := .boolean) (t := 2) (a0 := (24, .inl (fun _ => 0))) (ty := .boolean) (N := 24) (K := 24) S hK hw zm_201 rfl rfl (Nat.le_of_ble_eq_true rfl) (fun h => h) (fun _ => rfl) (by decide) (by decide) (Nat.le_refl _) (by decide) (by show _ ≤ (3 : Nat); omega) (by show _ ≤ (673 : Nat); omega) zd_X1_init_24 (fun H hw => ?_)
  replace hw : zc_W g h5 H locs := (Option.some.inj eh5) ▸ hw
  replace hf := zo_b hf; obtain ⟨h6, eh6, hf⟩ := hf
  refine zw_putF S hK hw zk_1 (k := 2) (by decide) rfl zm_185 hnm eh6 (ty := (.array .boolean)) (by decide +kernel) (zv_rnA _ _) (zv_rfA _ _) zd_X1_init_26 (fun H locs hw => ?_)
  have hres := Option.some.inj hf; subst hres
  exact zw_vret hx hb hr hlk hw zd_X1_init_29 (by show _ ≤ (3 : Nat); omega) (by show _ ≤ (673 : Nat); omega)
def zf_X1_placeOf (h : zc_H) (q : Nat) (x1 : Int32) : Option (Int32) :=
  if ¬ zf_is h q 1 = true then none else
  if x1 < 0 then
    some (-1)
  else
  (zf_gr h q 1 1).bind fun v2 =>
  v2.bind fun a4 =>
  (zf_len h a4).bind fun v5 =>
  if v5 ≤ x1 then
    some (-1)
  else
  (zf_gr h q 1 1).bind fun v7 =>
  v7.bind fun a9 =>
  (zf_ai h a9 0 x1).bind fun v10 =>
  some v10
abbrev zr_X1_placeOf : Room := { frames := 0, cells := 0, slots := 0, locals := 0 }
theorem zi_X1_placeOf {h : zc_H} {q : Nat} {x1 : Int32} {res : Int32} (hf : zf_X1_placeOf h q x1 = some res) : zf_is h q 1 = true := Decidable.not_not.mp (zo_n hf).1
set_option maxHeartbeats 4000000 in
set_option maxRecDepth 20000 in
theorem zt_X1_placeOf (l : Launch) (g : zc_G) (h : zc_H) (q : Nat) (x1 : Int32) (res : Int32) (hf : zf_X1_placeOf h q x1 = some res) : zc_M l g yX1_placeOf cX1_placeOf 2 (some .int) zr_X1_placeOf h [va_rf ((some q)), .int (x1)] h (some (.int (res))) := by
  refine zc_M.of (by decide) (by simp [lg_sl, zv_cat, zv_ci, zv_cj]) ?_
  intro p e s m below meth c ls S hK hw hr hlk hnm hl
  replace S : CallFix p m c cX1_placeOf 2 s [va_rf ((some q)), .int (x1)].toArray (zc_ws yX1_placeOf cX1_placeOf 2 (some .int)) RX1 := S
  have hx := S.1
  have hb := S.2.1
  replace hl : lv_has ls 2 [(0, va_rf ((some q))), (1, .int (x1))] := by simpa [lv_args, zv_cat, zv_ci, zv_cj] using hl
  generalize s.heap = H at hw ⊢
  obtain ⟨locs, hlocs⟩ : ∃ L : List Loc, L = [] := ⟨_, rfl⟩
  rw [← hlocs] at hw ⊢
  unfold zf_X1_placeOf at hf
  obtain ⟨-, hf⟩ := zo_n hf
  refine lv_iload_n hx hb zd_X1_placeOf_0 rfl (lv_at hl 1 rfl) ?_
  refine lv_if_lt (tgt := 22) hx hb zd_X1_placeOf_1 (by decide) (fun c1 => ?_) (fun c1 => ?_)
  · replace hf := zo_t c1 hf
    refine lv_iconst (v := (-1)) hx hb zd_X1_placeOf_22 (by decide) ?_
    have hres := Option.some.inj hf; subst hres
    exact zw_iret (v := (-1)) (ty := .int) hx hb hr hlk rfl hw zd_X1_placeOf_23 (Nat.le_refl 0) (Nat.le_refl 0)
  · replace hf := zo_f c1 hf
    refine lv_iload_n hx hb zd_X1_placeOf_4 rfl (lv_at hl 1 rfl) ?_
    refine zl_aload_n hx hb zd_X1_placeOf_5 rfl (lv_at hl 0 rfl) ?_
    replace hf := zo_b hf; obtain ⟨v2, ev2, hf⟩ := hf
    obtain ⟨u3, u3e, u3v⟩ := zo_b ev2
    obtain rfl := zv_r_e u3v
    refine zw_get S hK hw zk_1 (k := 1) (by decide) rfl zm_184 (Or.inl rfl) u3e zd_X1_placeOf_6 ?_
    replace hf := zo_b hf; obtain ⟨a4, na4, hf⟩ := hf
    refine W.eq (g2 := F0 m 9 ls [va_rf ((some a4)), .int (x1)]) (by rw [na4] <;> rfl) ?_
    replace hf := zo_b hf; obtain ⟨v5, ev5, hf⟩ := hf
    refine zw_alen S hK hw ev5 zd_X1_placeOf_9 ?_
    refine lv_icmp_ge (tgt := 22) hx hb zd_X1_placeOf_10 (by decide) (fun c6 => ?_) (fun c6 => ?_)
    · replace hf := zo_t c6 hf
      refine lv_iconst (v := (-1)) hx hb zd_X1_placeOf_22 (by decide) ?_
      have hres := Option.some.inj hf; subst hres
      exact zw_iret (v := (-1)) (ty := .int) hx hb hr hlk rfl hw zd_X1_placeOf_23 (Nat.le_refl 0) (Nat.le_refl 0)
    · replace hf := zo_f c6 hf
      refine zl_aload_n hx hb zd_X1_placeOf_13 rfl (lv_at hl 0 rfl) ?_
      replace hf := zo_b hf; obtain ⟨v7, ev7, hf⟩ := hf
      obtain ⟨u8, u8e, u8v⟩ := zo_b ev7
      obtain rfl := zv_r_e u8v
      refine zw_get S hK hw zk_1 (k := 1) (by decide) rfl zm_184 (Or.inl rfl) u8e zd_X1_placeOf_14 ?_
      refine lv_iload_n hx hb zd_X1_placeOf_17 rfl (lv_at hl 1 rfl) ?_
      replace hf := zo_b hf; obtain ⟨a9, na9, hf⟩ := hf
      refine W.eq (g2 := F0 m 18 ls [.int (x1), va_rf ((some a9))]) (by rw [na9] <;> rfl) ?_
      replace hf := zo_b hf; obtain ⟨v10, ev10, hf⟩ := hf
      refine zw_iald S hK hw ev10 zd_X1_placeOf_18 ?_
      refine lv_goto (tgt := 23) hx hb zd_X1_placeOf_19 (by decide) ?_
      have hres := Option.some.inj hf; subst hres
      exact zw_iret (v := v10) (ty := .int) hx hb hr hlk rfl hw zd_X1_placeOf_23 (Nat.le_refl 0) (Nat.le_refl 0)
def zf_J7_fill_53178_L5 (y0 : Option Nat) (y1 : Int32) (y3 : Int32) : Nat → zc_H → Int32 → Option (zc_H)
  | 0, _, _ => none
  | n + 1, h, y2 =>
    if y3 ≤ y2 then
      some h
    else
    y0.bind fun a4 =>
    (zf_si h a4 0 y2 y1).bind fun h5 =>
    zf_J7_fill_53178_L5 y0 y1 y3 n h5 (y2 + 1)
def zf_J7_fill_53178 (h : zc_H) (x0 : Option Nat) (x1 : Int32) : Option (zc_H) :=
  x0.bind fun a1 =>
  (zf_len h a1).bind fun v2 =>
  (zf_J7_fill_53178_L5 x0 x1 v2 2000 h 0).bind fun w6 =>
  some w6
abbrev zr_J7_fill_53178 : Room := { frames := 0, cells := 0, slots := 0, locals := 0 }
set_option maxHeartbeats 4000000 in
set_option maxRecDepth 20000 in
theorem zt_J7_fill_53178 (l : Launch) (g : zc_G) (h : zc_H) (x0 : Option Nat) (x1 : Int32) (res : zc_H) (hf : zf_J7_fill_53178 h x0 x1 = some res) : zc_M l g yJ7_fill_53178 cJ7_fill_53178 4 none zr_J7_fill_53178 h [va_rf (x0), .int (x1)] res none := by
  refine zc_M.of (by decide) (by simp [lg_sl, zv_cat, zv_ci, zv_cj]) ?_
  intro p e s m below meth c ls S hK hw hr hlk hnm hl
  replace S : CallFix p m c cJ7_fill_53178 4 s [va_rf (x0), .int (x1)].toArray (zc_ws yJ7_fill_53178 cJ7_fill_53178 4 none) RJ7 := S
  have hx := S.1
  have hb := S.2.1
  replace hl : lv_has ls 4 [(0, va_rf (x0)), (1, .int (x1))] := by simpa [lv_args, zv_cat, zv_ci, zv_cj] using hl
  generalize s.heap = H at hw ⊢
  obtain ⟨locs, hlocs⟩ : ∃ L : List Loc, L = [] := ⟨_, rfl⟩
  rw [← hlocs] at hw ⊢
  have L5 : ∀ (y0 : Option Nat) (y1 : Int32) (y3 : Int32) (n : Nat) (h : zc_H) (y2 : Int32) (w : zc_H) (H : Heap) (locs : List Loc) (ls : Array Slot), zf_J7_fill_53178_L5 y0 y1 y3 n h y2 = some w → zc_W g h H locs → lv_has ls 4 [(0, va_rf (y0)), (1, .int (y1)), (2, .int (y2)), (3, .int (y3))] → (∀ (H : Heap) (locs : List Loc) (ls : Array Slot), zc_W g w H locs → lv_has ls 4 [] → W p l e zr_J7_fill_53178 s m [va_rf (x0), .int (x1)].toArray below meth c H locs 0 0 (zc_Q g below zr_J7_fill_53178 none res [va_rf (x0), .int (x1)] s) (F0 m 20 ls [])) → W p l e zr_J7_fill_53178 s m [va_rf (x0), .int (x1)].toArray below meth c H locs 0 0 (zc_Q g below zr_J7_fill_53178 none res [va_rf (x0), .int (x1)] s) (F0 m 5 ls []) := by
    intro y0 y1 y3 n
    induction n with
    | zero =>
      intro h y2 w H locs ls hf
      cases hf
    | succ n ih =>
      intro h y2 w H locs ls hf hw hl  kk
      unfold zf_J7_fill_53178_L5 at hf
      refine lv_iload_n hx hb zd_J7_fill_53178_5 rfl (lv_at hl 2 rfl) ?_
      refine lv_iload_n hx hb zd_J7_fill_53178_6 rfl (lv_at hl 3 rfl) ?_
      refine lv_icmp_ge (tgt := 20) hx hb zd_J7_fill_53178_7 (by decide) (fun c3 => ?_) (fun c3 => ?_)
      · replace hf := zo_t c3 hf
        have hres := Option.some.inj hf; subst hres
        exact kk _ _ _ hw (lv_sub hl [] rfl)
      · replace hf := zo_f c3 hf
        refine zl_aload_n hx hb zd_J7_fill_53178_10 rfl (lv_at hl 0 rfl) ?_
        refine lv_iload_n hx hb zd_J7_fill_53178_11 rfl (lv_at hl 2 rfl) ?_
        refine lv_iload_n hx hb zd_J7_fill_53178_12 rfl (lv_at hl 1 rfl) ?_
        replace hf := zo_b hf; obtain ⟨a4, na4, hf⟩ := hf
        refine W.eq (g2 := F0 m 13 ls [.int (y1), .int (y2), va_rf ((some a4))]) (by rw [na4] <;> rfl) ?_
        replace hf := zo_b hf; obtain ⟨h5, eh5, hf⟩ := hf
        refine zw_iast S hK hw eh5 zd_J7_fill_53178_13 (fun H locs hw => ?_)
        refine lv_iinc (i := 2) (v := (y2 + 1)) (lv' := [(2, .int ((y2 + 1))), (0, va_rf (y0)), (1, .int (y1)), (3, .int (y3))]) hx hb zd_J7_fill_53178_14 hl (k := 2) rfl (congrArg (_ + ·) (by decide)) (by decide) rfl (fun ls hl => ?_)
        refine lv_goto (tgt := 5) hx hb zd_J7_fill_53178_17 (by decide) ?_
        exact ih h5 (y2 + 1) _ _ _ _ hf hw (lv_sub hl [1, 2, 0, 3] rfl) kk
  unfold zf_J7_fill_53178 at hf
  refine lv_iconst (v := 0) hx hb zd_J7_fill_53178_0 (by decide) ?_
  refine lv_istore_n (i := 2) (lv' := [(2, .int (0)), (0, va_rf (x0)), (1, .int (x1))]) hx hb zd_J7_fill_53178_1 rfl hl (by decide) rfl (fun ls hl => ?_)
  refine zl_aload_n hx hb zd_J7_fill_53178_2 rfl (lv_at hl 1 rfl) ?_
  replace hf := zo_b hf; obtain ⟨a1, na1, hf⟩ := hf
  refine W.eq (g2 := F0 m 3 ls [va_rf ((some a1))]) (by rw [na1] <;> rfl) ?_
  replace hf := zo_b hf; obtain ⟨v2, ev2, hf⟩ := hf
  refine zw_alen S hK hw ev2 zd_J7_fill_53178_3 ?_
  refine lv_istore_n (i := 3) (lv' := [(3, .int (v2)), (2, .int (0)), (0, va_rf (x0)), (1, .int (x1))]) hx hb zd_J7_fill_53178_4 rfl hl (by decide) rfl (fun ls hl => ?_)
  replace hf := zo_b hf; obtain ⟨w6, w6e, hf⟩ := hf
  refine L5 x0 x1 v2 2000 h 0 _ _ _ _ w6e hw (lv_sub hl [2, 3, 1, 0] rfl) (fun H locs ls hw hl => ?_)
  have hres := Option.some.inj hf; subst hres
  exact zw_vret hx hb hr hlk hw zd_J7_fill_53178_20 (Nat.le_refl 0) (Nat.le_refl 0)
def zf_X1_countCommon_L27 (q : Nat) (y1 : Option Nat) (y2 : Option Nat) (y3 : Int32) : Nat → zc_H → Int32 → Option (zc_H)
  | 0, _, _ => none
  | n + 1, h, y4 =>
    if y4 < 0 then
      some h
    else
    (zf_gr h q 1 0).bind fun v10 =>
    v10.bind fun a12 =>
    (zf_len h a12).bind fun v13 =>
    let k120 := fun (h120j : zc_H) =>
      zf_X1_countCommon_L27 q y1 y2 y3 n h120j (y4 + (-1))
    if ((((y3 * 25) + y4) + 25) + 1) < v13 then
      (zf_gr h q 1 0).bind fun v15 =>
      y1.bind fun a17 =>
      (zf_X4_lineAt h a17 y3).bind fun r18 =>
      y2.bind fun a19 =>
      (zf_X4_lineAt h a19 y4).bind fun r20 =>
      let k119 := fun (s119_0 : Int32) (s119_1 : Int32) (s119_2 : Option Nat) =>
        s119_2.bind fun a22 =>
        (zf_si h a22 0 s119_1 s119_0).bind fun h23 =>
        k120 h23
      if (lg_cmp r18 r20) = 0 then
        (zf_gr h q 1 0).bind fun v32 =>
        v32.bind fun a34 =>
        (zf_ai h a34 0 ((((y3 * 25) + y4) + 25) + 1)).bind fun v35 =>
        k119 (v35 + 1) ((y3 * 25) + y4) v15
      else
      (zf_gr h q 1 0).bind fun v24 =>
      v24.bind fun a26 =>
      (zf_ai h a26 0 (((y3 * 25) + y4) + 25)).bind fun v27 =>
      (zf_gr h q 1 0).bind fun v28 =>
      v28.bind fun a30 =>
      (zf_ai h a30 0 (((y3 * 25) + y4) + 1)).bind fun v31 =>
      k119 (if v27 < v31 then v31 else v27) ((y3 * 25) + y4) v15
    else
    k120 h
def zf_X1_countCommon_L15 (q : Nat) (y1 : Option Nat) (y2 : Option Nat) : Nat → zc_H → Int32 → Option (zc_H)
  | 0, _, _ => none
  | n + 1, h, y3 =>
    if y3 < 0 then
      some h
    else
    y2.bind fun a7 =>
    (zf_X4_count h a7).bind fun r8 =>
    (zf_X1_countCommon_L27 q y1 y2 y3 2000 h (r8 - 1)).bind fun w36 =>
    zf_X1_countCommon_L15 q y1 y2 n w36 (y3 + (-1))
def zf_X1_countCommon (h : zc_H) (q : Nat) (x1 : Option Nat) (x2 : Option Nat) : Option (zc_H) :=
  if ¬ zf_is h q 1 = true then none else
  (zf_gr h q 1 0).bind fun v1 =>
  (zf_J7_fill_53178 h v1 0).bind fun r3 =>
  x1.bind fun a4 =>
  (zf_X4_count r3 a4).bind fun r5 =>
  (zf_X1_countCommon_L15 q x1 x2 2000 r3 (r5 - 1)).bind fun w37 =>
  some w37
abbrev zr_X1_countCommon : Room := { frames := 1, cells := 0, slots := 0, locals := 40 }
theorem zi_X1_countCommon {h : zc_H} {q : Nat} {x1 : Option Nat} {x2 : Option Nat} {res : zc_H} (hf : zf_X1_countCommon h q x1 x2 = some res) : zf_is h q 1 = true := Decidable.not_not.mp (zo_n hf).1
set_option maxHeartbeats 4000000 in
set_option maxRecDepth 20000 in
theorem zt_X1_countCommon (l : Launch) (g : zc_G) (h : zc_H) (q : Nat) (x1 : Option Nat) (x2 : Option Nat) (res : zc_H) (hf : zf_X1_countCommon h q x1 x2 = some res) : zc_M l g yX1_countCommon cX1_countCommon 6 none zr_X1_countCommon h [va_rf ((some q)), va_rf (x1), va_rf (x2)] res none := by
  refine zc_M.of (by decide) (by simp [lg_sl, zv_cat, zv_ci, zv_cj]) ?_
  intro p e s m below meth c ls S hK hw hr hlk hnm hl
  replace S : CallFix p m c cX1_countCommon 6 s [va_rf ((some q)), va_rf (x1), va_rf (x2)].toArray (zc_ws yX1_countCommon cX1_countCommon 6 none) RX1 := S
  have hx := S.1
  have hb := S.2.1
  replace hl : lv_has ls 6 [(0, va_rf ((some q))), (1, va_rf (x1)), (2, va_rf (x2))] := by simpa [lv_args, zv_cat, zv_ci, zv_cj] using hl
  generalize s.heap = H at hw ⊢
  obtain ⟨locs, hlocs⟩ : ∃ L : List Loc, L = [] := ⟨_, rfl⟩
  rw [← hlocs] at hw ⊢
  have L27 : ∀ (y1 : Option Nat) (y2 : Option Nat) (y3 : Int32) (n : Nat) (h : zc_H) (y4 : Int32) (w : zc_H) (H : Heap) (locs : List Loc) (ls : Array Slot), zf_X1_countCommon_L27 q y1 y2 y3 n h y4 = some w → zc_W g h H locs → lv_has ls 6 [(0, va_rf ((some q))), (1, va_rf (y1)), (2, va_rf (y2)), (3, .int (y3)), (4, .int (y4))] → (∀ (H : Heap) (locs : List Loc) (ls : Array Slot), zc_W g w H locs → lv_has ls 6 [(0, va_rf ((some q))), (1, va_rf (y1)), (2, va_rf (y2)), (3, .int (y3))] → W p l e zr_X1_countCommon s m [va_rf ((some q)), va_rf (x1), va_rf (x2)].toArray below meth c H locs 0 0 (zc_Q g below zr_X1_countCommon none res [va_rf ((some q)), va_rf (x1), va_rf (x2)] s) (F0 m 126 ls [])) → W p l e zr_X1_countCommon s m [va_rf ((some q)), va_rf (x1), va_rf (x2)].toArray below meth c H locs 0 0 (zc_Q g below zr_X1_countCommon none res [va_rf ((some q)), va_rf (x1), va_rf (x2)] s) (F0 m 27 ls []) := by
    intro y1 y2 y3 n
    induction n with
    | zero =>
      intro h y4 w H locs ls hf
      cases hf
    | succ n ih =>
      intro h y4 w H locs ls hf hw hl  kk
      unfold zf_X1_countCommon_L27 at hf
      refine lv_iload hx hb zd_X1_countCommon_27 (lv_at hl 4 rfl) ?_
      refine lv_if_lt (tgt := 126) hx hb zd_X1_countCommon_29 (by decide) (fun c9 => ?_) (fun c9 => ?_)
      · replace hf := zo_t c9 hf
        have hres := Option.some.inj hf; subst hres
        exact kk _ _ _ hw (lv_sub hl [0, 1, 2, 3] rfl)
      · replace hf := zo_f c9 hf
        refine lv_iload_n hx hb zd_X1_countCommon_32 rfl (lv_at hl 3 rfl) ?_
        refine lv_bipush (v := 25) hx hb zd_X1_countCommon_33 (by decide) ?_
        refine lv_imul hx hb zd_X1_countCommon_35 ?_
        refine lv_iload hx hb zd_X1_countCommon_36 (lv_at hl 4 rfl) ?_
        refine lv_iadd hx hb zd_X1_countCommon_38 ?_
        refine lv_istore (i := 5) (lv' := [(5, .int (((y3 * 25) + y4))), (0, va_rf ((some q))), (1, va_rf (y1)), (2, va_rf (y2)), (3, .int (y3)), (4, .int (y4))]) hx hb zd_X1_countCommon_39 hl (by decide) rfl (fun ls hl => ?_)
        refine lv_iload hx hb zd_X1_countCommon_41 (lv_at hl 0 rfl) ?_
        refine lv_bipush (v := 25) hx hb zd_X1_countCommon_43 (by decide) ?_
        refine lv_iadd hx hb zd_X1_countCommon_45 ?_
        refine lv_iconst (v := 1) hx hb zd_X1_countCommon_46 (by decide) ?_
        refine lv_iadd hx hb zd_X1_countCommon_47 ?_
        refine zl_aload_n hx hb zd_X1_countCommon_48 rfl (lv_at hl 1 rfl) ?_
        replace hf := zo_b hf; obtain ⟨v10, ev10, hf⟩ := hf
        obtain ⟨u11, u11e, u11v⟩ := zo_b ev10
        obtain rfl := zv_r_e u11v
        refine zw_get S hK hw zk_1 (k := 0) (by decide) rfl zm_183 (Or.inl rfl) u11e zd_X1_countCommon_49 ?_
        replace hf := zo_b hf; obtain ⟨a12, na12, hf⟩ := hf
        refine W.eq (g2 := F0 m 52 ls [va_rf ((some a12)), .int (((((y3 * 25) + y4) + 25) + 1))]) (by rw [na12] <;> rfl) ?_
        replace hf := zo_b hf; obtain ⟨v13, ev13, hf⟩ := hf
        refine zw_alen S hK hw ev13 zd_X1_countCommon_52 ?_
        have k120h : ∀ (h120j : zc_H) (H : Heap) (locs : List Loc) (ls : Array Slot), (
            zf_X1_countCommon_L27 q y1 y2 y3 n h120j (y4 + (-1))
            ) = some w → zc_W g h120j H locs → lv_has ls 6 [(0, va_rf ((some q))), (1, va_rf (y1)), (2, va_rf (y2)), (3, .int (y3)), (4, .int (y4))] → W p l e zr_X1_countCommon s m [va_rf ((some q)), va_rf (x1), va_rf (x2)].toArray below meth c H locs 0 0 (zc_Q g below zr_X1_countCommon none res [va_rf ((some q)), va_rf (x1), va_rf (x2)] s) (F0 m 120 ls []) := by
          intro h120j H locs ls hf hw hl
          refine lv_iinc (i := 4) (v := (y4 + (-1))) (lv' := [(4, .int ((y4 + (-1)))), (0, va_rf ((some q))), (1, va_rf (y1)), (2, va_rf (y2)), (3, .int (y3))]) hx hb zd_X1_countCommon_120 hl (k := 4) rfl (congrArg (_ + ·) (by decide)) (by decide) rfl (fun ls hl => ?_)
          refine lv_goto (tgt := 27) hx hb zd_X1_countCommon_123 (by decide) ?_
          exact ih h120j (y4 + (-1)) _ _ _ _ hf hw (lv_sub hl [1, 2, 3, 4, 0] rfl) kk
        refine lv_icmp_lt (tgt := 59) hx hb zd_X1_countCommon_53 (by decide) (fun c14 => ?_) (fun c14 => ?_)
        · replace hf := zo_t c14 hf
          refine zl_aload_n hx hb zd_X1_countCommon_59 rfl (lv_at hl 1 rfl) ?_
          replace hf := zo_b hf; obtain ⟨v15, ev15, hf⟩ := hf
          obtain ⟨u16, u16e, u16v⟩ := zo_b ev15
          obtain rfl := zv_r_e u16v
          refine zw_get S hK hw zk_1 (k := 0) (by decide) rfl zm_183 (Or.inl rfl) u16e zd_X1_countCommon_60 ?_
          refine lv_iload hx hb zd_X1_countCommon_63 (lv_at hl 0 rfl) ?_
          refine zl_aload_n hx hb zd_X1_countCommon_65 rfl (lv_at hl 2 rfl) ?_
          refine lv_iload_n hx hb zd_X1_countCommon_66 rfl (lv_at hl 4 rfl) ?_
          replace hf := zo_b hf; obtain ⟨a17, na17, hf⟩ := hf
          refine W.eq (g2 := F0 m 67 ls [.int (y3), va_rf ((some a17)), .int (((y3 * 25) + y4)), va_rf (v15)]) (by rw [na17] <;> rfl) ?_
          replace hf := zo_b hf; obtain ⟨r18, er18, hf⟩ := hf
          refine zw_callV (n := 1) (ci := 4) (q := zc_cl[4]) (As := [.int (y3)]) (rest := [.int (((y3 * 25) + y4)), va_rf (v15)]) S hK hw (zt_X4_lineAt l g h a17 y3 _ er18) zm_621 zm_622 zm_623 zq_X4_lineAt zm_84 (by decide +kernel) ⟨Nat.le_of_ble_eq_true rfl, Nat.le_of_ble_eq_true rfl⟩ rfl rfl rfl (zi_X4_lineAt er18) hl.1 rfl (by simp [zv_cat, zv_ci, zv_cj]) zd_X1_countCommon_67 ⟨(Nat.le_refl 0), (Nat.le_refl 0)⟩ (fun H locs hw => ?_)
          replace hw : zc_W g h H locs := hw
          refine zl_aload_n hx hb zd_X1_countCommon_70 rfl (lv_at hl 3 rfl) ?_
          refine lv_iload hx hb zd_X1_countCommon_71 (lv_at hl 5 rfl) ?_
          replace hf := zo_b hf; obtain ⟨a19, na19, hf⟩ := hf
          refine W.eq (g2 := F0 m 73 ls [.int (y4), va_rf ((some a19)), .long (r18), .int (((y3 * 25) + y4)), va_rf (v15)]) (by rw [na19] <;> rfl) ?_
          replace hf := zo_b hf; obtain ⟨r20, er20, hf⟩ := hf
          refine zw_callV (n := 1) (ci := 4) (q := zc_cl[4]) (As := [.int (y4)]) (rest := [.long (r18), .int (((y3 * 25) + y4)), va_rf (v15)]) S hK hw (zt_X4_lineAt l g h a19 y4 _ er20) zm_621 zm_622 zm_623 zq_X4_lineAt zm_84 (by decide +kernel) ⟨Nat.le_of_ble_eq_true rfl, Nat.le_of_ble_eq_true rfl⟩ rfl rfl rfl (zi_X4_lineAt er20) hl.1 rfl (by simp [zv_cat, zv_ci, zv_cj]) zd_X1_countCommon_73 ⟨(Nat.le_refl 0), (Nat.le_refl 0)⟩ (fun H locs hw => ?_)
          replace hw : zc_W g h H locs := hw
          refine W.lcmp hx hb zd_X1_countCommon_76 ?_
          have k119h : ∀ (s119_0 : Int32) (s119_1 : Int32) (s119_2 : Option Nat) (H : Heap) (locs : List Loc) (ls : Array Slot), (
              let k120 := fun (h120j : zc_H) =>
                zf_X1_countCommon_L27 q y1 y2 y3 n h120j (y4 + (-1))
              s119_2.bind fun a22 =>
              (zf_si h a22 0 s119_1 s119_0).bind fun h23 =>
              k120 h23
              ) = some w → zc_W g h H locs → lv_has ls 6 [(0, va_rf ((some q))), (1, va_rf (y1)), (2, va_rf (y2)), (3, .int (y3)), (4, .int (y4))] → W p l e zr_X1_countCommon s m [va_rf ((some q)), va_rf (x1), va_rf (x2)].toArray below meth c H locs ((0 + 0) + 0) ((0 + 0) + 0) (zc_Q g below zr_X1_countCommon none res [va_rf ((some q)), va_rf (x1), va_rf (x2)] s) (F0 m 119 ls [.int (s119_0), .int (s119_1), va_rf (s119_2)]) := by
            intro s119_0 s119_1 s119_2 H locs ls hf hw hl
            replace hf := zo_b hf; obtain ⟨a22, na22, hf⟩ := hf
            refine W.eq (g2 := F0 m 119 ls [.int (s119_0), .int (s119_1), va_rf ((some a22))]) (by rw [na22] <;> rfl) ?_
            replace hf := zo_b hf; obtain ⟨h23, eh23, hf⟩ := hf
            refine zw_iast S hK hw eh23 zd_X1_countCommon_119 (fun H locs hw => ?_)
            exact k120h h23 _ _ _ hf hw (lv_sub hl [0, 1, 2, 3, 4] rfl)
          refine lv_if_ne (tgt := 97) hx hb zd_X1_countCommon_77 (by decide) (fun c21 => ?_) (fun c21 => ?_)
          · replace hf := zo_f c21 hf
            refine zl_aload_n hx hb zd_X1_countCommon_97 rfl (lv_at hl 1 rfl) ?_
            replace hf := zo_b hf; obtain ⟨v24, ev24, hf⟩ := hf
            obtain ⟨u25, u25e, u25v⟩ := zo_b ev24
            obtain rfl := zv_r_e u25v
            refine zw_get S hK hw zk_1 (k := 0) (by decide) rfl zm_183 (Or.inl rfl) u25e zd_X1_countCommon_98 ?_
            refine lv_iload hx hb zd_X1_countCommon_101 (lv_at hl 0 rfl) ?_
            refine lv_bipush (v := 25) hx hb zd_X1_countCommon_103 (by decide) ?_
            refine lv_iadd hx hb zd_X1_countCommon_105 ?_
            replace hf := zo_b hf; obtain ⟨a26, na26, hf⟩ := hf
            refine W.eq (g2 := F0 m 106 ls [.int ((((y3 * 25) + y4) + 25)), va_rf ((some a26)), .int (((y3 * 25) + y4)), va_rf (v15)]) (by rw [na26] <;> rfl) ?_
            replace hf := zo_b hf; obtain ⟨v27, ev27, hf⟩ := hf
            refine zw_iald S hK hw ev27 zd_X1_countCommon_106 ?_
            refine zl_aload_n hx hb zd_X1_countCommon_107 rfl (lv_at hl 1 rfl) ?_
            replace hf := zo_b hf; obtain ⟨v28, ev28, hf⟩ := hf
            obtain ⟨u29, u29e, u29v⟩ := zo_b ev28
            obtain rfl := zv_r_e u29v
            refine zw_get S hK hw zk_1 (k := 0) (by decide) rfl zm_183 (Or.inl rfl) u29e zd_X1_countCommon_108 ?_
            refine lv_iload hx hb zd_X1_countCommon_111 (lv_at hl 0 rfl) ?_
            refine lv_iconst (v := 1) hx hb zd_X1_countCommon_113 (by decide) ?_
            refine lv_iadd hx hb zd_X1_countCommon_114 ?_
            replace hf := zo_b hf; obtain ⟨a30, na30, hf⟩ := hf
            refine W.eq (g2 := F0 m 115 ls [.int ((((y3 * 25) + y4) + 1)), va_rf ((some a30)), .int (v27), .int (((y3 * 25) + y4)), va_rf (v15)]) (by rw [na30] <;> rfl) ?_
            replace hf := zo_b hf; obtain ⟨v31, ev31, hf⟩ := hf
            refine zw_iald S hK hw ev31 zd_X1_countCommon_115 ?_
            refine va_mmax hx hb (S.2.2.1.trans hl.1.symm) S.2.2.2.1 (S.2.2.2.2 _ (List.mem_cons_of_mem _ zm_625)) (S.2.2.2.2 _ (List.mem_cons_of_mem _ zm_569)) (S.2.2.2.2 _ (List.mem_cons_of_mem _ zm_85)) (S.2.2.2.2 _ (List.mem_cons_of_mem _ zm_570)) (Nat.le_of_ble_eq_true rfl) (by simp [zv_cat, zv_ci, zv_cj, zr_X1_countCommon]) (Nat.le_refl 0) (Nat.le_refl 0) zd_X1_countCommon_116 ?_
            exact k119h (if v27 < v31 then v31 else v27) ((y3 * 25) + y4) v15 _ _ _ hf hw (lv_sub hl [1, 2, 3, 4, 5] rfl)
          · replace hf := zo_t c21 hf
            refine zl_aload_n hx hb zd_X1_countCommon_80 rfl (lv_at hl 1 rfl) ?_
            replace hf := zo_b hf; obtain ⟨v32, ev32, hf⟩ := hf
            obtain ⟨u33, u33e, u33v⟩ := zo_b ev32
            obtain rfl := zv_r_e u33v
            refine zw_get S hK hw zk_1 (k := 0) (by decide) rfl zm_183 (Or.inl rfl) u33e zd_X1_countCommon_81 ?_
            refine lv_iload hx hb zd_X1_countCommon_84 (lv_at hl 0 rfl) ?_
            refine lv_bipush (v := 25) hx hb zd_X1_countCommon_86 (by decide) ?_
            refine lv_iadd hx hb zd_X1_countCommon_88 ?_
            refine lv_iconst (v := 1) hx hb zd_X1_countCommon_89 (by decide) ?_
            refine lv_iadd hx hb zd_X1_countCommon_90 ?_
            replace hf := zo_b hf; obtain ⟨a34, na34, hf⟩ := hf
            refine W.eq (g2 := F0 m 91 ls [.int (((((y3 * 25) + y4) + 25) + 1)), va_rf ((some a34)), .int (((y3 * 25) + y4)), va_rf (v15)]) (by rw [na34] <;> rfl) ?_
            replace hf := zo_b hf; obtain ⟨v35, ev35, hf⟩ := hf
            refine zw_iald S hK hw ev35 zd_X1_countCommon_91 ?_
            refine lv_iconst (v := 1) hx hb zd_X1_countCommon_92 (by decide) ?_
            refine lv_iadd hx hb zd_X1_countCommon_93 ?_
            refine lv_goto (tgt := 119) hx hb zd_X1_countCommon_94 (by decide) ?_
            exact k119h (v35 + 1) ((y3 * 25) + y4) v15 _ _ _ hf hw (lv_sub hl [1, 2, 3, 4, 5] rfl)
        · replace hf := zo_f c14 hf
          refine lv_goto (tgt := 120) hx hb zd_X1_countCommon_56 (by decide) ?_
          exact k120h h _ _ _ hf hw (lv_sub hl [1, 2, 3, 4, 5] rfl)
  have L15 : ∀ (y1 : Option Nat) (y2 : Option Nat) (n : Nat) (h : zc_H) (y3 : Int32) (w : zc_H) (H : Heap) (locs : List Loc) (ls : Array Slot), zf_X1_countCommon_L15 q y1 y2 n h y3 = some w → zc_W g h H locs → lv_has ls 6 [(0, va_rf ((some q))), (1, va_rf (y1)), (2, va_rf (y2)), (3, .int (y3))] → (∀ (H : Heap) (locs : List Loc) (ls : Array Slot), zc_W g w H locs → lv_has ls 6 [] → W p l e zr_X1_countCommon s m [va_rf ((some q)), va_rf (x1), va_rf (x2)].toArray below meth c H locs 0 0 (zc_Q g below zr_X1_countCommon none res [va_rf ((some q)), va_rf (x1), va_rf (x2)] s) (F0 m 132 ls [])) → W p l e zr_X1_countCommon s m [va_rf ((some q)), va_rf (x1), va_rf (x2)].toArray below meth c H locs 0 0 (zc_Q g below zr_X1_countCommon none res [va_rf ((some q)), va_rf (x1), va_rf (x2)] s) (F0 m 15 ls []) := by
    intro y1 y2 n
    induction n with
    | zero =>
      intro h y3 w H locs ls hf
      cases hf
    | succ n ih =>
      intro h y3 w H locs ls hf hw hl  kk
      unfold zf_X1_countCommon_L15 at hf
      refine lv_iload_n hx hb zd_X1_countCommon_15 rfl (lv_at hl 3 rfl) ?_
      refine lv_if_lt (tgt := 132) hx hb zd_X1_countCommon_16 (by decide) (fun c6 => ?_) (fun c6 => ?_)
      · replace hf := zo_t c6 hf
        have hres := Option.some.inj hf; subst hres
        exact kk _ _ _ hw (lv_sub hl [] rfl)
      · replace hf := zo_f c6 hf
        refine zl_aload_n hx hb zd_X1_countCommon_19 rfl (lv_at hl 2 rfl) ?_
        replace hf := zo_b hf; obtain ⟨a7, na7, hf⟩ := hf
        refine W.eq (g2 := F0 m 20 ls [va_rf ((some a7))]) (by rw [na7] <;> rfl) ?_
        replace hf := zo_b hf; obtain ⟨r8, er8, hf⟩ := hf
        refine zw_callV (n := 0) (ci := 4) (q := zc_cl[4]) (As := []) (rest := []) S hK hw (zt_X4_count l g h a7 _ er8) zm_617 zm_618 zm_619 zq_X4_count zm_84 (by decide +kernel) ⟨Nat.le_of_ble_eq_true rfl, Nat.le_of_ble_eq_true rfl⟩ rfl rfl rfl (zi_X4_count er8) hl.1 rfl (by simp [zv_cat, zv_ci, zv_cj]) zd_X1_countCommon_20 ⟨(Nat.le_refl 0), (Nat.le_refl 0)⟩ (fun H locs hw => ?_)
        replace hw : zc_W g h H locs := hw
        refine lv_iconst (v := 1) hx hb zd_X1_countCommon_23 (by decide) ?_
        refine lv_isub hx hb zd_X1_countCommon_24 ?_
        refine lv_istore (i := 4) (lv' := [(4, .int ((r8 - 1))), (0, va_rf ((some q))), (1, va_rf (y1)), (2, va_rf (y2)), (3, .int (y3))]) hx hb zd_X1_countCommon_25 hl (by decide) rfl (fun ls hl => ?_)
        replace hf := zo_b hf; obtain ⟨w36, w36e, hf⟩ := hf
        refine L27 y1 y2 y3 2000 h (r8 - 1) _ _ _ _ w36e hw (lv_sub hl [1, 2, 3, 4, 0] rfl) (fun H locs ls hw hl => ?_)
        refine lv_iinc (i := 3) (v := (y3 + (-1))) (lv' := [(3, .int ((y3 + (-1)))), (0, va_rf ((some q))), (1, va_rf (y1)), (2, va_rf (y2))]) hx hb zd_X1_countCommon_126 hl (k := 3) rfl (congrArg (_ + ·) (by decide)) (by decide) (by simp [List.filter, zv_cat, zv_ci, zv_cj]) (fun ls hl => ?_)
        refine lv_goto (tgt := 15) hx hb zd_X1_countCommon_129 (by decide) ?_
        exact ih w36 (y3 + (-1)) _ _ _ _ hf hw (lv_sub hl [1, 2, 3, 0] rfl) kk
  unfold zf_X1_countCommon at hf
  obtain ⟨-, hf⟩ := zo_n hf
  refine zl_aload_n hx hb zd_X1_countCommon_0 rfl (lv_at hl 0 rfl) ?_
  replace hf := zo_b hf; obtain ⟨v1, ev1, hf⟩ := hf
  obtain ⟨u2, u2e, u2v⟩ := zo_b ev1
  obtain rfl := zv_r_e u2v
  refine zw_get S hK hw zk_1 (k := 0) (by decide) rfl zm_183 (Or.inl rfl) u2e zd_X1_countCommon_1 ?_
  refine lv_iconst (v := 0) hx hb zd_X1_countCommon_4 (by decide) ?_
  replace hf := zo_b hf; obtain ⟨r3, er3, hf⟩ := hf
  refine zw_callS (n := 2) (As := [va_rf (v1), .int (0)]) (rest := []) S hK hw (zt_J7_fill_53178 l g h v1 0 _ er3) zm_610 zm_611 zq_J7_fill_53178 zm_80 (by decide +kernel) ⟨Nat.le_of_ble_eq_true rfl, Nat.le_of_ble_eq_true rfl⟩ rfl hl.1 rfl (by simp [zv_cat, zv_ci, zv_cj]) zd_X1_countCommon_5 ⟨(Nat.le_refl 0), (Nat.le_refl 0)⟩ (fun H locs hw => ?_)
  replace hw : zc_W g r3 H locs := hw
  refine zl_aload_n hx hb zd_X1_countCommon_8 rfl (lv_at hl 1 rfl) ?_
  replace hf := zo_b hf; obtain ⟨a4, na4, hf⟩ := hf
  refine W.eq (g2 := F0 m 9 ls [va_rf ((some a4))]) (by rw [na4] <;> rfl) ?_
  replace hf := zo_b hf; obtain ⟨r5, er5, hf⟩ := hf
  refine zw_callV (n := 0) (ci := 4) (q := zc_cl[4]) (As := []) (rest := []) S hK hw (zt_X4_count l g r3 a4 _ er5) zm_617 zm_618 zm_619 zq_X4_count zm_84 (by decide +kernel) ⟨Nat.le_of_ble_eq_true rfl, Nat.le_of_ble_eq_true rfl⟩ rfl rfl rfl (zi_X4_count er5) hl.1 rfl (by simp [zv_cat, zv_ci, zv_cj]) zd_X1_countCommon_9 ⟨(Nat.le_refl 0), (Nat.le_refl 0)⟩ (fun H locs hw => ?_)
  replace hw : zc_W g r3 H locs := hw
  refine lv_iconst (v := 1) hx hb zd_X1_countCommon_12 (by decide) ?_
  refine lv_isub hx hb zd_X1_countCommon_13 ?_
  refine lv_istore_n (i := 3) (lv' := [(3, .int ((r5 - 1))), (0, va_rf ((some q))), (1, va_rf (x1)), (2, va_rf (x2))]) hx hb zd_X1_countCommon_14 rfl hl (by decide) (by simp [List.filter, zv_cat, zv_ci, zv_cj]) (fun ls hl => ?_)
  replace hf := zo_b hf; obtain ⟨w37, w37e, hf⟩ := hf
  refine L15 x1 x2 2000 r3 (r5 - 1) _ _ _ _ w37e hw (lv_sub hl [1, 2, 3, 0] rfl) (fun H locs ls hw hl => ?_)
  have hres := Option.some.inj hf; subst hres
  exact zw_vret hx hb hr hlk hw zd_X1_countCommon_132 (Nat.le_refl 0) (Nat.le_refl 0)
def zf_X1_commonFrom (h : zc_H) (q : Nat) (x1 : Int32) (x2 : Int32) : Option (Int32) :=
  if ¬ zf_is h q 1 = true then none else
  if ((x1 * 25) + x2) < 0 then
    some 0
  else
  (zf_gr h q 1 0).bind fun v2 =>
  v2.bind fun a4 =>
  (zf_len h a4).bind fun v5 =>
  if v5 ≤ ((x1 * 25) + x2) then
    some 0
  else
  (zf_gr h q 1 0).bind fun v7 =>
  v7.bind fun a9 =>
  (zf_ai h a9 0 ((x1 * 25) + x2)).bind fun v10 =>
  some v10
abbrev zr_X1_commonFrom : Room := { frames := 0, cells := 0, slots := 0, locals := 0 }
theorem zi_X1_commonFrom {h : zc_H} {q : Nat} {x1 : Int32} {x2 : Int32} {res : Int32} (hf : zf_X1_commonFrom h q x1 x2 = some res) : zf_is h q 1 = true := Decidable.not_not.mp (zo_n hf).1
set_option maxHeartbeats 4000000 in
set_option maxRecDepth 20000 in
theorem zt_X1_commonFrom (l : Launch) (g : zc_G) (h : zc_H) (q : Nat) (x1 : Int32) (x2 : Int32) (res : Int32) (hf : zf_X1_commonFrom h q x1 x2 = some res) : zc_M l g yX1_commonFrom cX1_commonFrom 4 (some .int) zr_X1_commonFrom h [va_rf ((some q)), .int (x1), .int (x2)] h (some (.int (res))) := by
  refine zc_M.of (by decide) (by simp [lg_sl, zv_cat, zv_ci, zv_cj]) ?_
  intro p e s m below meth c ls S hK hw hr hlk hnm hl
  replace S : CallFix p m c cX1_commonFrom 4 s [va_rf ((some q)), .int (x1), .int (x2)].toArray (zc_ws yX1_commonFrom cX1_commonFrom 4 (some .int)) RX1 := S
  have hx := S.1
  have hb := S.2.1
  replace hl : lv_has ls 4 [(0, va_rf ((some q))), (1, .int (x1)), (2, .int (x2))] := by simpa [lv_args, zv_cat, zv_ci, zv_cj] using hl
  generalize s.heap = H at hw ⊢
  obtain ⟨locs, hlocs⟩ : ∃ L : List Loc, L = [] := ⟨_, rfl⟩
  rw [← hlocs] at hw ⊢
  unfold zf_X1_commonFrom at hf
  obtain ⟨-, hf⟩ := zo_n hf
  refine lv_iload_n hx hb zd_X1_commonFrom_0 rfl (lv_at hl 1 rfl) ?_
  refine lv_bipush (v := 25) hx hb zd_X1_commonFrom_1 (by decide) ?_
  refine lv_imul hx hb zd_X1_commonFrom_3 ?_
  refine lv_iload_n hx hb zd_X1_commonFrom_4 rfl (lv_at hl 2 rfl) ?_
  refine lv_iadd hx hb zd_X1_commonFrom_5 ?_
  refine lv_istore_n (i := 3) (lv' := [(3, .int (((x1 * 25) + x2))), (0, va_rf ((some q))), (1, .int (x1)), (2, .int (x2))]) hx hb zd_X1_commonFrom_6 rfl hl (by decide) rfl (fun ls hl => ?_)
  refine lv_iload_n hx hb zd_X1_commonFrom_7 rfl (lv_at hl 0 rfl) ?_
  refine lv_if_lt (tgt := 29) hx hb zd_X1_commonFrom_8 (by decide) (fun c1 => ?_) (fun c1 => ?_)
  · replace hf := zo_t c1 hf
    refine lv_iconst (v := 0) hx hb zd_X1_commonFrom_29 (by decide) ?_
    have hres := Option.some.inj hf; subst hres
    exact zw_iret (v := 0) (ty := .int) hx hb hr hlk rfl hw zd_X1_commonFrom_30 (Nat.le_refl 0) (Nat.le_refl 0)
  · replace hf := zo_f c1 hf
    refine lv_iload_n hx hb zd_X1_commonFrom_11 rfl (lv_at hl 0 rfl) ?_
    refine zl_aload_n hx hb zd_X1_commonFrom_12 rfl (lv_at hl 1 rfl) ?_
    replace hf := zo_b hf; obtain ⟨v2, ev2, hf⟩ := hf
    obtain ⟨u3, u3e, u3v⟩ := zo_b ev2
    obtain rfl := zv_r_e u3v
    refine zw_get S hK hw zk_1 (k := 0) (by decide) rfl zm_183 (Or.inl rfl) u3e zd_X1_commonFrom_13 ?_
    replace hf := zo_b hf; obtain ⟨a4, na4, hf⟩ := hf
    refine W.eq (g2 := F0 m 16 ls [va_rf ((some a4)), .int (((x1 * 25) + x2))]) (by rw [na4] <;> rfl) ?_
    replace hf := zo_b hf; obtain ⟨v5, ev5, hf⟩ := hf
    refine zw_alen S hK hw ev5 zd_X1_commonFrom_16 ?_
    refine lv_icmp_ge (tgt := 29) hx hb zd_X1_commonFrom_17 (by decide) (fun c6 => ?_) (fun c6 => ?_)
    · replace hf := zo_t c6 hf
      refine lv_iconst (v := 0) hx hb zd_X1_commonFrom_29 (by decide) ?_
      have hres := Option.some.inj hf; subst hres
      exact zw_iret (v := 0) (ty := .int) hx hb hr hlk rfl hw zd_X1_commonFrom_30 (Nat.le_refl 0) (Nat.le_refl 0)
    · replace hf := zo_f c6 hf
      refine zl_aload_n hx hb zd_X1_commonFrom_20 rfl (lv_at hl 1 rfl) ?_
      replace hf := zo_b hf; obtain ⟨v7, ev7, hf⟩ := hf
      obtain ⟨u8, u8e, u8v⟩ := zo_b ev7
      obtain rfl := zv_r_e u8v
      refine zw_get S hK hw zk_1 (k := 0) (by decide) rfl zm_183 (Or.inl rfl) u8e zd_X1_commonFrom_21 ?_
      refine lv_iload_n hx hb zd_X1_commonFrom_24 rfl (lv_at hl 0 rfl) ?_
      replace hf := zo_b hf; obtain ⟨a9, na9, hf⟩ := hf
      refine W.eq (g2 := F0 m 25 ls [.int (((x1 * 25) + x2)), va_rf ((some a9))]) (by rw [na9] <;> rfl) ?_
      replace hf := zo_b hf; obtain ⟨v10, ev10, hf⟩ := hf
      refine zw_iald S hK hw ev10 zd_X1_commonFrom_25 ?_
      refine lv_goto (tgt := 30) hx hb zd_X1_commonFrom_26 (by decide) ?_
      have hres := Option.some.inj hf; subst hres
      exact zw_iret (v := v10) (ty := .int) hx hb hr hlk rfl hw zd_X1_commonFrom_30 (Nat.le_refl 0) (Nat.le_refl 0)
def zf_X1_take (h : zc_H) (q : Nat) (x1 : Int32) (x2 : Int32) : Option (zc_H) :=
  if ¬ zf_is h q 1 = true then none else
  if x1 < 0 then
    some h
  else
  (zf_gr h q 1 1).bind fun v2 =>
  v2.bind fun a4 =>
  (zf_len h a4).bind fun v5 =>
  if v5 ≤ x1 then
    some h
  else
  if x2 < 0 then
    some h
  else
  (zf_gr h q 1 2).bind fun v8 =>
  v8.bind fun a10 =>
  (zf_len h a10).bind fun v11 =>
  if v11 ≤ x2 then
    some h
  else
  (zf_gr h q 1 1).bind fun v13 =>
  v13.bind fun a15 =>
  (zf_si h a15 0 x1 x2).bind fun h16 =>
  (zf_gr h16 q 1 2).bind fun v17 =>
  v17.bind fun a19 =>
  (zf_si h16 a19 2 x2 (1 &&& 1)).bind fun h20 =>
  some h20
abbrev zr_X1_take : Room := { frames := 0, cells := 0, slots := 0, locals := 0 }
theorem zi_X1_take {h : zc_H} {q : Nat} {x1 : Int32} {x2 : Int32} {res : zc_H} (hf : zf_X1_take h q x1 x2 = some res) : zf_is h q 1 = true := Decidable.not_not.mp (zo_n hf).1
set_option maxHeartbeats 4000000 in
set_option maxRecDepth 20000 in
theorem zt_X1_take (l : Launch) (g : zc_G) (h : zc_H) (q : Nat) (x1 : Int32) (x2 : Int32) (res : zc_H) (hf : zf_X1_take h q x1 x2 = some res) : zc_M l g yX1_take cX1_take 3 none zr_X1_take h [va_rf ((some q)), .int (x1), .int (x2)] res none := by
  refine zc_M.of (by decide) (by simp [lg_sl, zv_cat, zv_ci, zv_cj]) ?_
  intro p e s m below meth c ls S hK hw hr hlk hnm hl
  replace S : CallFix p m c cX1_take 3 s [va_rf ((some q)), .int (x1), .int (x2)].toArray (zc_ws yX1_take cX1_take 3 none) RX1 := S
  have hx := S.1
  have hb := S.2.1
  replace hl : lv_has ls 3 [(0, va_rf ((some q))), (1, .int (x1)), (2, .int (x2))] := by simpa [lv_args, zv_cat, zv_ci, zv_cj] using hl
  generalize s.heap = H at hw ⊢
  obtain ⟨locs, hlocs⟩ : ∃ L : List Loc, L = [] := ⟨_, rfl⟩
  rw [← hlocs] at hw ⊢
  unfold zf_X1_take at hf
  obtain ⟨-, hf⟩ := zo_n hf
  refine lv_iload_n hx hb zd_X1_take_0 rfl (lv_at hl 1 rfl) ?_
  refine lv_if_lt (tgt := 40) hx hb zd_X1_take_1 (by decide) (fun c1 => ?_) (fun c1 => ?_)
  · replace hf := zo_t c1 hf
    have hres := Option.some.inj hf; subst hres
    exact zw_vret hx hb hr hlk hw zd_X1_take_40 (Nat.le_refl 0) (Nat.le_refl 0)
  · replace hf := zo_f c1 hf
    refine lv_iload_n hx hb zd_X1_take_4 rfl (lv_at hl 1 rfl) ?_
    refine zl_aload_n hx hb zd_X1_take_5 rfl (lv_at hl 0 rfl) ?_
    replace hf := zo_b hf; obtain ⟨v2, ev2, hf⟩ := hf
    obtain ⟨u3, u3e, u3v⟩ := zo_b ev2
    obtain rfl := zv_r_e u3v
    refine zw_get S hK hw zk_1 (k := 1) (by decide) rfl zm_184 (Or.inl rfl) u3e zd_X1_take_6 ?_
    replace hf := zo_b hf; obtain ⟨a4, na4, hf⟩ := hf
    refine W.eq (g2 := F0 m 9 ls [va_rf ((some a4)), .int (x1)]) (by rw [na4] <;> rfl) ?_
    replace hf := zo_b hf; obtain ⟨v5, ev5, hf⟩ := hf
    refine zw_alen S hK hw ev5 zd_X1_take_9 ?_
    refine lv_icmp_ge (tgt := 40) hx hb zd_X1_take_10 (by decide) (fun c6 => ?_) (fun c6 => ?_)
    · replace hf := zo_t c6 hf
      have hres := Option.some.inj hf; subst hres
      exact zw_vret hx hb hr hlk hw zd_X1_take_40 (Nat.le_refl 0) (Nat.le_refl 0)
    · replace hf := zo_f c6 hf
      refine lv_iload_n hx hb zd_X1_take_13 rfl (lv_at hl 2 rfl) ?_
      refine lv_if_lt (tgt := 40) hx hb zd_X1_take_14 (by decide) (fun c7 => ?_) (fun c7 => ?_)
      · replace hf := zo_t c7 hf
        have hres := Option.some.inj hf; subst hres
        exact zw_vret hx hb hr hlk hw zd_X1_take_40 (Nat.le_refl 0) (Nat.le_refl 0)
      · replace hf := zo_f c7 hf
        refine lv_iload_n hx hb zd_X1_take_17 rfl (lv_at hl 2 rfl) ?_
        refine zl_aload_n hx hb zd_X1_take_18 rfl (lv_at hl 0 rfl) ?_
        replace hf := zo_b hf; obtain ⟨v8, ev8, hf⟩ := hf
        obtain ⟨u9, u9e, u9v⟩ := zo_b ev8
        obtain rfl := zv_r_e u9v
        refine zw_get S hK hw zk_1 (k := 2) (by decide) rfl zm_185 (Or.inl rfl) u9e zd_X1_take_19 ?_
        replace hf := zo_b hf; obtain ⟨a10, na10, hf⟩ := hf
        refine W.eq (g2 := F0 m 22 ls [va_rf ((some a10)), .int (x2)]) (by rw [na10] <;> rfl) ?_
        replace hf := zo_b hf; obtain ⟨v11, ev11, hf⟩ := hf
        refine zw_alen S hK hw ev11 zd_X1_take_22 ?_
        refine lv_icmp_ge (tgt := 40) hx hb zd_X1_take_23 (by decide) (fun c12 => ?_) (fun c12 => ?_)
        · replace hf := zo_t c12 hf
          have hres := Option.some.inj hf; subst hres
          exact zw_vret hx hb hr hlk hw zd_X1_take_40 (Nat.le_refl 0) (Nat.le_refl 0)
        · replace hf := zo_f c12 hf
          refine zl_aload_n hx hb zd_X1_take_26 rfl (lv_at hl 0 rfl) ?_
          replace hf := zo_b hf; obtain ⟨v13, ev13, hf⟩ := hf
          obtain ⟨u14, u14e, u14v⟩ := zo_b ev13
          obtain rfl := zv_r_e u14v
          refine zw_get S hK hw zk_1 (k := 1) (by decide) rfl zm_184 (Or.inl rfl) u14e zd_X1_take_27 ?_
          refine lv_iload_n hx hb zd_X1_take_30 rfl (lv_at hl 1 rfl) ?_
          refine lv_iload_n hx hb zd_X1_take_31 rfl (lv_at hl 2 rfl) ?_
          replace hf := zo_b hf; obtain ⟨a15, na15, hf⟩ := hf
          refine W.eq (g2 := F0 m 32 ls [.int (x2), .int (x1), va_rf ((some a15))]) (by rw [na15] <;> rfl) ?_
          replace hf := zo_b hf; obtain ⟨h16, eh16, hf⟩ := hf
          refine zw_iast S hK hw eh16 zd_X1_take_32 (fun H locs hw => ?_)
          refine zl_aload_n hx hb zd_X1_take_33 rfl (lv_at hl 0 rfl) ?_
          replace hf := zo_b hf; obtain ⟨v17, ev17, hf⟩ := hf
          obtain ⟨u18, u18e, u18v⟩ := zo_b ev17
          obtain rfl := zv_r_e u18v
          refine zw_get S hK hw zk_1 (k := 2) (by decide) rfl zm_185 (Or.inl rfl) u18e zd_X1_take_34 ?_
          refine lv_iload_n hx hb zd_X1_take_37 rfl (lv_at hl 2 rfl) ?_
          refine lv_iconst (v := 1) hx hb zd_X1_take_38 (by decide) ?_
          replace hf := zo_b hf; obtain ⟨a19, na19, hf⟩ := hf
          refine W.eq (g2 := F0 m 39 ls [.int (1), .int (x2), va_rf ((some a19))]) (by rw [na19] <;> rfl) ?_
          replace hf := zo_b hf; obtain ⟨h20, eh20, hf⟩ := hf
          refine zw_zast S hK hw eh20 zd_X1_take_39 (fun H locs hw => ?_)
          have hres := Option.some.inj hf; subst hres
          exact zw_vret hx hb hr hlk hw zd_X1_take_40 (Nat.le_refl 0) (Nat.le_refl 0)
def zf_X1_pairUp_L5 (q : Nat) (y1 : Option Nat) (y2 : Option Nat) : Nat → zc_H → Int32 → Int32 → Option (zc_H)
  | 0, _, _, _ => none
  | n + 1, h, y3, y4 =>
    y1.bind fun a1 =>
    (zf_X4_count h a1).bind fun r2 =>
    if r2 ≤ y3 then
      some h
    else
    y2.bind fun a4 =>
    (zf_X4_count h a4).bind fun r5 =>
    if r5 ≤ y4 then
      some h
    else
    (zf_X4_lineAt h a1 y3).bind fun r7 =>
    (zf_X4_lineAt h a4 y4).bind fun r8 =>
    if (lg_cmp r7 r8) = 0 then
      (zf_X1_take h q y3 y4).bind fun r13 =>
      (zf_gi r13 q 1 3).bind fun v14 =>
      (zf_p r13 q 1 3 (.int ((v14 + 1)))).bind fun h16 =>
      zf_X1_pairUp_L5 q y1 y2 n h16 (y3 + 1) (y4 + 1)
    else
    (zf_X1_commonFrom h q (y3 + 1) y4).bind fun r10 =>
    (zf_X1_commonFrom h q y3 (y4 + 1)).bind fun r11 =>
    if r10 < r11 then
      zf_X1_pairUp_L5 q y1 y2 n h y3 (y4 + 1)
    else
    zf_X1_pairUp_L5 q y1 y2 n h (y3 + 1) y4
def zf_X1_pairUp (h : zc_H) (q : Nat) (x1 : Option Nat) (x2 : Option Nat) : Option (zc_H) :=
  if ¬ zf_is h q 1 = true then none else
  (zf_X1_pairUp_L5 q x1 x2 2000 h 0 0).bind fun w17 =>
  some w17
abbrev zr_X1_pairUp : Room := { frames := 1, cells := 0, slots := 0, locals := 23 }
theorem zi_X1_pairUp {h : zc_H} {q : Nat} {x1 : Option Nat} {x2 : Option Nat} {res : zc_H} (hf : zf_X1_pairUp h q x1 x2 = some res) : zf_is h q 1 = true := Decidable.not_not.mp (zo_n hf).1
set_option maxHeartbeats 4000000 in
set_option maxRecDepth 20000 in
theorem zt_X1_pairUp (l : Launch) (g : zc_G) (h : zc_H) (q : Nat) (x1 : Option Nat) (x2 : Option Nat) (res : zc_H) (hf : zf_X1_pairUp h q x1 x2 = some res) : zc_M l g yX1_pairUp cX1_pairUp 5 none zr_X1_pairUp h [va_rf ((some q)), va_rf (x1), va_rf (x2)] res none := by
  refine zc_M.of (by decide) (by simp [lg_sl, zv_cat, zv_ci, zv_cj]) ?_
  intro p e s m below meth c ls S hK hw hr hlk hnm hl
  replace S : CallFix p m c cX1_pairUp 5 s [va_rf ((some q)), va_rf (x1), va_rf (x2)].toArray (zc_ws yX1_pairUp cX1_pairUp 5 none) RX1 := S
  have hx := S.1
  have hb := S.2.1
  replace hl : lv_has ls 5 [(0, va_rf ((some q))), (1, va_rf (x1)), (2, va_rf (x2))] := by simpa [lv_args, zv_cat, zv_ci, zv_cj] using hl
  generalize s.heap = H at hw ⊢
  obtain ⟨locs, hlocs⟩ : ∃ L : List Loc, L = [] := ⟨_, rfl⟩
  rw [← hlocs] at hw ⊢
  have L5 : ∀ (y1 : Option Nat) (y2 : Option Nat) (n : Nat) (h : zc_H) (y3 : Int32) (y4 : Int32) (w : zc_H) (H : Heap) (locs : List Loc) (ls : Array Slot), zf_X1_pairUp_L5 q y1 y2 n h y3 y4 = some w → zc_W g h H locs → lv_has ls 5 [(0, va_rf ((some q))), (1, va_rf (y1)), (2, va_rf (y2)), (3, .int (y3)), (4, .int (y4))] → (∀ (H : Heap) (locs : List Loc) (ls : Array Slot), zc_W g w H locs → lv_has ls 5 [] → W p l e zr_X1_pairUp s m [va_rf ((some q)), va_rf (x1), va_rf (x2)].toArray below meth c H locs 0 0 (zc_Q g below zr_X1_pairUp none res [va_rf ((some q)), va_rf (x1), va_rf (x2)] s) (F0 m 96 ls [])) → W p l e zr_X1_pairUp s m [va_rf ((some q)), va_rf (x1), va_rf (x2)].toArray below meth c H locs 0 0 (zc_Q g below zr_X1_pairUp none res [va_rf ((some q)), va_rf (x1), va_rf (x2)] s) (F0 m 5 ls []) := by
    intro y1 y2 n
    induction n with
    | zero =>
      intro h y3 y4 w H locs ls hf
      cases hf
    | succ n ih =>
      intro h y3 y4 w H locs ls hf hw hl  kk
      unfold zf_X1_pairUp_L5 at hf
      refine lv_iload_n hx hb zd_X1_pairUp_5 rfl (lv_at hl 3 rfl) ?_
      refine zl_aload_n hx hb zd_X1_pairUp_6 rfl (lv_at hl 1 rfl) ?_
      replace hf := zo_b hf; obtain ⟨a1, na1, hf⟩ := hf
      refine W.eq (g2 := F0 m 7 ls [va_rf ((some a1)), .int (y3)]) (by rw [na1] <;> rfl) ?_
      replace hf := zo_b hf; obtain ⟨r2, er2, hf⟩ := hf
      refine zw_callV (n := 0) (ci := 4) (q := zc_cl[4]) (As := []) (rest := [.int (y3)]) S hK hw (zt_X4_count l g h a1 _ er2) zm_617 zm_618 zm_619 zq_X4_count zm_84 (by decide +kernel) ⟨Nat.le_of_ble_eq_true rfl, Nat.le_of_ble_eq_true rfl⟩ rfl rfl rfl (zi_X4_count er2) hl.1 rfl (by simp [zv_cat, zv_ci, zv_cj]) zd_X1_pairUp_7 ⟨(Nat.le_refl 0), (Nat.le_refl 0)⟩ (fun H locs hw => ?_)
      replace hw : zc_W g h H locs := hw
      refine lv_icmp_ge (tgt := 96) hx hb zd_X1_pairUp_10 (by decide) (fun c3 => ?_) (fun c3 => ?_)
      · replace hf := zo_t c3 hf
        have hres := Option.some.inj hf; subst hres
        exact kk _ _ _ hw (lv_sub hl [] rfl)
      · replace hf := zo_f c3 hf
        refine lv_iload hx hb zd_X1_pairUp_13 (lv_at hl 4 rfl) ?_
        refine zl_aload_n hx hb zd_X1_pairUp_15 rfl (lv_at hl 2 rfl) ?_
        replace hf := zo_b hf; obtain ⟨a4, na4, hf⟩ := hf
        refine W.eq (g2 := F0 m 16 ls [va_rf ((some a4)), .int (y4)]) (by rw [na4] <;> rfl) ?_
        replace hf := zo_b hf; obtain ⟨r5, er5, hf⟩ := hf
        refine zw_callV (n := 0) (ci := 4) (q := zc_cl[4]) (As := []) (rest := [.int (y4)]) S hK hw (zt_X4_count l g h a4 _ er5) zm_617 zm_618 zm_619 zq_X4_count zm_84 (by decide +kernel) ⟨Nat.le_of_ble_eq_true rfl, Nat.le_of_ble_eq_true rfl⟩ rfl rfl rfl (zi_X4_count er5) hl.1 rfl (by simp [zv_cat, zv_ci, zv_cj]) zd_X1_pairUp_16 ⟨(Nat.le_refl 0), (Nat.le_refl 0)⟩ (fun H locs hw => ?_)
        replace hw : zc_W g h H locs := hw
        refine lv_icmp_ge (tgt := 96) hx hb zd_X1_pairUp_19 (by decide) (fun c6 => ?_) (fun c6 => ?_)
        · replace hf := zo_t c6 hf
          have hres := Option.some.inj hf; subst hres
          exact kk _ _ _ hw (lv_sub hl [] rfl)
        · replace hf := zo_f c6 hf
          refine zl_aload_n hx hb zd_X1_pairUp_22 rfl (lv_at hl 1 rfl) ?_
          refine lv_iload_n hx hb zd_X1_pairUp_23 rfl (lv_at hl 3 rfl) ?_
          refine W.eq (g2 := F0 m 24 ls [.int (y3), va_rf ((some a1))]) (by rw [na1] <;> rfl) ?_
          replace hf := zo_b hf; obtain ⟨r7, er7, hf⟩ := hf
          refine zw_callV (n := 1) (ci := 4) (q := zc_cl[4]) (As := [.int (y3)]) (rest := []) S hK hw (zt_X4_lineAt l g h a1 y3 _ er7) zm_621 zm_622 zm_623 zq_X4_lineAt zm_84 (by decide +kernel) ⟨Nat.le_of_ble_eq_true rfl, Nat.le_of_ble_eq_true rfl⟩ rfl rfl rfl (zi_X4_lineAt er7) hl.1 rfl (by simp [zv_cat, zv_ci, zv_cj]) zd_X1_pairUp_24 ⟨(Nat.le_refl 0), (Nat.le_refl 0)⟩ (fun H locs hw => ?_)
          replace hw : zc_W g h H locs := hw
          refine zl_aload_n hx hb zd_X1_pairUp_27 rfl (lv_at hl 2 rfl) ?_
          refine lv_iload hx hb zd_X1_pairUp_28 (lv_at hl 4 rfl) ?_
          refine W.eq (g2 := F0 m 30 ls [.int (y4), va_rf ((some a4)), .long (r7)]) (by rw [na4] <;> rfl) ?_
          replace hf := zo_b hf; obtain ⟨r8, er8, hf⟩ := hf
          refine zw_callV (n := 1) (ci := 4) (q := zc_cl[4]) (As := [.int (y4)]) (rest := [.long (r7)]) S hK hw (zt_X4_lineAt l g h a4 y4 _ er8) zm_621 zm_622 zm_623 zq_X4_lineAt zm_84 (by decide +kernel) ⟨Nat.le_of_ble_eq_true rfl, Nat.le_of_ble_eq_true rfl⟩ rfl rfl rfl (zi_X4_lineAt er8) hl.1 rfl (by simp [zv_cat, zv_ci, zv_cj]) zd_X1_pairUp_30 ⟨(Nat.le_refl 0), (Nat.le_refl 0)⟩ (fun H locs hw => ?_)
          replace hw : zc_W g h H locs := hw
          refine W.lcmp hx hb zd_X1_pairUp_33 ?_
          refine lv_if_ne (tgt := 63) hx hb zd_X1_pairUp_34 (by decide) (fun c9 => ?_) (fun c9 => ?_)
          · replace hf := zo_f c9 hf
            refine zl_aload_n hx hb zd_X1_pairUp_63 rfl (lv_at hl 0 rfl) ?_
            refine lv_iload_n hx hb zd_X1_pairUp_64 rfl (lv_at hl 3 rfl) ?_
            refine lv_iconst (v := 1) hx hb zd_X1_pairUp_65 (by decide) ?_
            refine lv_iadd hx hb zd_X1_pairUp_66 ?_
            refine lv_iload hx hb zd_X1_pairUp_67 (lv_at hl 4 rfl) ?_
            replace hf := zo_b hf; obtain ⟨r10, er10, hf⟩ := hf
            refine zw_callV (n := 2) (ci := 1) (q := zc_cl[1]) (As := [.int ((y3 + 1)), .int (y4)]) (rest := []) S hK hw (zt_X1_commonFrom l g h q (y3 + 1) y4 _ er10) zm_634 zm_636 zm_10 zq_X1_commonFrom zm_74 (by decide +kernel) ⟨Nat.le_of_ble_eq_true rfl, Nat.le_of_ble_eq_true rfl⟩ rfl rfl rfl (zi_X1_commonFrom er10) hl.1 rfl (by simp [zv_cat, zv_ci, zv_cj]) zd_X1_pairUp_69 ⟨(Nat.le_refl 0), (Nat.le_refl 0)⟩ (fun H locs hw => ?_)
            replace hw : zc_W g h H locs := hw
            refine zl_aload_n hx hb zd_X1_pairUp_72 rfl (lv_at hl 0 rfl) ?_
            refine lv_iload_n hx hb zd_X1_pairUp_73 rfl (lv_at hl 3 rfl) ?_
            refine lv_iload hx hb zd_X1_pairUp_74 (lv_at hl 4 rfl) ?_
            refine lv_iconst (v := 1) hx hb zd_X1_pairUp_76 (by decide) ?_
            refine lv_iadd hx hb zd_X1_pairUp_77 ?_
            replace hf := zo_b hf; obtain ⟨r11, er11, hf⟩ := hf
            refine zw_callV (n := 2) (ci := 1) (q := zc_cl[1]) (As := [.int (y3), .int ((y4 + 1))]) (rest := [.int (r10)]) S hK hw (zt_X1_commonFrom l g h q y3 (y4 + 1) _ er11) zm_634 zm_636 zm_10 zq_X1_commonFrom zm_74 (by decide +kernel) ⟨Nat.le_of_ble_eq_true rfl, Nat.le_of_ble_eq_true rfl⟩ rfl rfl rfl (zi_X1_commonFrom er11) hl.1 rfl (by simp [zv_cat, zv_ci, zv_cj]) zd_X1_pairUp_78 ⟨(Nat.le_refl 0), (Nat.le_refl 0)⟩ (fun H locs hw => ?_)
            replace hw : zc_W g h H locs := hw
            refine lv_icmp_lt (tgt := 90) hx hb zd_X1_pairUp_81 (by decide) (fun c12 => ?_) (fun c12 => ?_)
            · replace hf := zo_t c12 hf
              refine lv_iinc (i := 4) (v := (y4 + 1)) (lv' := [(4, .int ((y4 + 1))), (0, va_rf ((some q))), (1, va_rf (y1)), (2, va_rf (y2)), (3, .int (y3))]) hx hb zd_X1_pairUp_90 hl (k := 4) rfl (congrArg (_ + ·) (by decide)) (by decide) rfl (fun ls hl => ?_)
              refine lv_goto (tgt := 5) hx hb zd_X1_pairUp_93 (by decide) ?_
              exact ih h y3 (y4 + 1) _ _ _ _ hf hw (lv_sub hl [1, 2, 3, 4, 0] rfl) kk
            · replace hf := zo_f c12 hf
              refine lv_iinc (i := 3) (v := (y3 + 1)) (lv' := [(3, .int ((y3 + 1))), (0, va_rf ((some q))), (1, va_rf (y1)), (2, va_rf (y2)), (4, .int (y4))]) hx hb zd_X1_pairUp_84 hl (k := 3) rfl (congrArg (_ + ·) (by decide)) (by decide) (by simp [List.filter, zv_cat, zv_ci, zv_cj]) (fun ls hl => ?_)
              refine lv_goto (tgt := 5) hx hb zd_X1_pairUp_87 (by decide) ?_
              exact ih h (y3 + 1) y4 _ _ _ _ hf hw (lv_sub hl [1, 2, 3, 0, 4] rfl) kk
          · replace hf := zo_t c9 hf
            refine zl_aload_n hx hb zd_X1_pairUp_37 rfl (lv_at hl 0 rfl) ?_
            refine lv_iload_n hx hb zd_X1_pairUp_38 rfl (lv_at hl 3 rfl) ?_
            refine lv_iload hx hb zd_X1_pairUp_39 (lv_at hl 4 rfl) ?_
            replace hf := zo_b hf; obtain ⟨r13, er13, hf⟩ := hf
            refine zw_callV (n := 2) (ci := 1) (q := zc_cl[1]) (As := [.int (y3), .int (y4)]) (rest := []) S hK hw (zt_X1_take l g h q y3 y4 _ er13) zm_630 zm_632 zm_9 zq_X1_take zm_74 (by decide +kernel) ⟨Nat.le_of_ble_eq_true rfl, Nat.le_of_ble_eq_true rfl⟩ rfl rfl rfl (zi_X1_take er13) hl.1 rfl (by simp [zv_cat, zv_ci, zv_cj]) zd_X1_pairUp_41 ⟨(Nat.le_refl 0), (Nat.le_refl 0)⟩ (fun H locs hw => ?_)
            replace hw : zc_W g r13 H locs := hw
            refine zl_aload_n hx hb zd_X1_pairUp_44 rfl (lv_at hl 0 rfl) ?_
            refine lv_dup hx hb zd_X1_pairUp_45 rfl ?_
            replace hf := zo_b hf; obtain ⟨v14, ev14, hf⟩ := hf
            obtain ⟨u15, u15e, u15v⟩ := zo_b ev14
            obtain rfl := zv_i_e u15v
            refine zw_get S hK hw zk_1 (k := 3) (by decide) rfl zm_186 (Or.inl rfl) u15e zd_X1_pairUp_46 ?_
            refine lv_iconst (v := 1) hx hb zd_X1_pairUp_49 (by decide) ?_
            refine lv_iadd hx hb zd_X1_pairUp_50 ?_
            replace hf := zo_b hf; obtain ⟨h16, eh16, hf⟩ := hf
            refine zw_put S hK hw zk_1 (k := 3) (by decide) rfl zm_186 (Or.inl rfl) eh16 (ty := .int) (by decide +kernel) rfl rfl zd_X1_pairUp_51 (fun H locs hw => ?_)
            refine lv_iinc (i := 3) (v := (y3 + 1)) (lv' := [(3, .int ((y3 + 1))), (0, va_rf ((some q))), (1, va_rf (y1)), (2, va_rf (y2)), (4, .int (y4))]) hx hb zd_X1_pairUp_54 hl (k := 3) rfl (congrArg (_ + ·) (by decide)) (by decide) (by simp [List.filter, zv_cat, zv_ci, zv_cj]) (fun ls hl => ?_)
            refine lv_iinc (i := 4) (v := (y4 + 1)) (lv' := [(4, .int ((y4 + 1))), (3, .int ((y3 + 1))), (0, va_rf ((some q))), (1, va_rf (y1)), (2, va_rf (y2))]) hx hb zd_X1_pairUp_57 hl (k := 4) rfl (congrArg (_ + ·) (by decide)) (by decide) rfl (fun ls hl => ?_)
            refine lv_goto (tgt := 5) hx hb zd_X1_pairUp_60 (by decide) ?_
            exact ih h16 (y3 + 1) (y4 + 1) _ _ _ _ hf hw (lv_sub hl [2, 3, 4, 1, 0] rfl) kk
  unfold zf_X1_pairUp at hf
  obtain ⟨-, hf⟩ := zo_n hf
  refine lv_iconst (v := 0) hx hb zd_X1_pairUp_0 (by decide) ?_
  refine lv_istore_n (i := 3) (lv' := [(3, .int (0)), (0, va_rf ((some q))), (1, va_rf (x1)), (2, va_rf (x2))]) hx hb zd_X1_pairUp_1 rfl hl (by decide) (by simp [List.filter, zv_cat, zv_ci, zv_cj]) (fun ls hl => ?_)
  refine lv_iconst (v := 0) hx hb zd_X1_pairUp_2 (by decide) ?_
  refine lv_istore (i := 4) (lv' := [(4, .int (0)), (3, .int (0)), (0, va_rf ((some q))), (1, va_rf (x1)), (2, va_rf (x2))]) hx hb zd_X1_pairUp_3 hl (by decide) rfl (fun ls hl => ?_)
  replace hf := zo_b hf; obtain ⟨w17, w17e, hf⟩ := hf
  refine L5 x1 x2 2000 h 0 0 _ _ _ _ w17e hw (lv_sub hl [2, 3, 4, 1, 0] rfl) (fun H locs ls hw hl => ?_)
  have hres := Option.some.inj hf; subst hres
  exact zw_vret hx hb hr hlk hw zd_X1_pairUp_96 (Nat.le_refl 0) (Nat.le_refl 0)
def zf_X1_isFree (h : zc_H) (q : Nat) (x1 : Int32) (x2 : Int32) : Option (Int32) :=
  if ¬ zf_is h q 1 = true then none else
  if x1 < 0 then
    some 0
  else
  (zf_gr h q 1 1).bind fun v2 =>
  v2.bind fun a4 =>
  (zf_len h a4).bind fun v5 =>
  if v5 ≤ x1 then
    some 0
  else
  (zf_gr h q 1 1).bind fun v7 =>
  v7.bind fun a9 =>
  (zf_ai h a9 0 x1).bind fun v10 =>
  if v10 = (-1) then
    if x2 < 0 then
      some 0
    else
    (zf_gr h q 1 2).bind fun v13 =>
    v13.bind fun a15 =>
    (zf_len h a15).bind fun v16 =>
    if v16 ≤ x2 then
      some 0
    else
    (zf_gr h q 1 2).bind fun v18 =>
    v18.bind fun a20 =>
    (zf_ai h a20 2 x2).bind fun v21 =>
    if v21 = 0 then
      some 1
    else
    some 0
  else
  some 0
abbrev zr_X1_isFree : Room := { frames := 0, cells := 0, slots := 0, locals := 0 }
theorem zi_X1_isFree {h : zc_H} {q : Nat} {x1 : Int32} {x2 : Int32} {res : Int32} (hf : zf_X1_isFree h q x1 x2 = some res) : zf_is h q 1 = true := Decidable.not_not.mp (zo_n hf).1
set_option maxHeartbeats 4000000 in
set_option maxRecDepth 20000 in
theorem zt_X1_isFree (l : Launch) (g : zc_G) (h : zc_H) (q : Nat) (x1 : Int32) (x2 : Int32) (res : Int32) (hf : zf_X1_isFree h q x1 x2 = some res) : zc_M l g yX1_isFree cX1_isFree 3 (some .boolean) zr_X1_isFree h [va_rf ((some q)), .int (x1), .int (x2)] h (some (.int (res))) := by
  refine zc_M.of (by decide) (by simp [lg_sl, zv_cat, zv_ci, zv_cj]) ?_
  intro p e s m below meth c ls S hK hw hr hlk hnm hl
  replace S : CallFix p m c cX1_isFree 3 s [va_rf ((some q)), .int (x1), .int (x2)].toArray (zc_ws yX1_isFree cX1_isFree 3 (some .boolean)) RX1 := S
  have hx := S.1
  have hb := S.2.1
  replace hl : lv_has ls 3 [(0, va_rf ((some q))), (1, .int (x1)), (2, .int (x2))] := by simpa [lv_args, zv_cat, zv_ci, zv_cj] using hl
  generalize s.heap = H at hw ⊢
  obtain ⟨locs, hlocs⟩ : ∃ L : List Loc, L = [] := ⟨_, rfl⟩
  rw [← hlocs] at hw ⊢
  unfold zf_X1_isFree at hf
  obtain ⟨-, hf⟩ := zo_n hf
  refine lv_iload_n hx hb zd_X1_isFree_0 rfl (lv_at hl 1 rfl) ?_
  refine lv_if_lt (tgt := 49) hx hb zd_X1_isFree_1 (by decide) (fun c1 => ?_) (fun c1 => ?_)
  · replace hf := zo_t c1 hf
    refine lv_iconst (v := 0) hx hb zd_X1_isFree_49 (by decide) ?_
    have hres := Option.some.inj hf; subst hres
    exact zw_iret (v := 0) (ty := .boolean) hx hb hr hlk rfl hw zd_X1_isFree_50 (Nat.le_refl 0) (Nat.le_refl 0)
  · replace hf := zo_f c1 hf
    refine lv_iload_n hx hb zd_X1_isFree_4 rfl (lv_at hl 1 rfl) ?_
    refine zl_aload_n hx hb zd_X1_isFree_5 rfl (lv_at hl 0 rfl) ?_
    replace hf := zo_b hf; obtain ⟨v2, ev2, hf⟩ := hf
    obtain ⟨u3, u3e, u3v⟩ := zo_b ev2
    obtain rfl := zv_r_e u3v
    refine zw_get S hK hw zk_1 (k := 1) (by decide) rfl zm_184 (Or.inl rfl) u3e zd_X1_isFree_6 ?_
    replace hf := zo_b hf; obtain ⟨a4, na4, hf⟩ := hf
    refine W.eq (g2 := F0 m 9 ls [va_rf ((some a4)), .int (x1)]) (by rw [na4] <;> rfl) ?_
    replace hf := zo_b hf; obtain ⟨v5, ev5, hf⟩ := hf
    refine zw_alen S hK hw ev5 zd_X1_isFree_9 ?_
    refine lv_icmp_ge (tgt := 49) hx hb zd_X1_isFree_10 (by decide) (fun c6 => ?_) (fun c6 => ?_)
    · replace hf := zo_t c6 hf
      refine lv_iconst (v := 0) hx hb zd_X1_isFree_49 (by decide) ?_
      have hres := Option.some.inj hf; subst hres
      exact zw_iret (v := 0) (ty := .boolean) hx hb hr hlk rfl hw zd_X1_isFree_50 (Nat.le_refl 0) (Nat.le_refl 0)
    · replace hf := zo_f c6 hf
      refine zl_aload_n hx hb zd_X1_isFree_13 rfl (lv_at hl 0 rfl) ?_
      replace hf := zo_b hf; obtain ⟨v7, ev7, hf⟩ := hf
      obtain ⟨u8, u8e, u8v⟩ := zo_b ev7
      obtain rfl := zv_r_e u8v
      refine zw_get S hK hw zk_1 (k := 1) (by decide) rfl zm_184 (Or.inl rfl) u8e zd_X1_isFree_14 ?_
      refine lv_iload_n hx hb zd_X1_isFree_17 rfl (lv_at hl 1 rfl) ?_
      replace hf := zo_b hf; obtain ⟨a9, na9, hf⟩ := hf
      refine W.eq (g2 := F0 m 18 ls [.int (x1), va_rf ((some a9))]) (by rw [na9] <;> rfl) ?_
      replace hf := zo_b hf; obtain ⟨v10, ev10, hf⟩ := hf
      refine zw_iald S hK hw ev10 zd_X1_isFree_18 ?_
      refine lv_iconst (v := (-1)) hx hb zd_X1_isFree_19 (by decide) ?_
      refine lv_icmp_ne (tgt := 49) hx hb zd_X1_isFree_20 (by decide) (fun c11 => ?_) (fun c11 => ?_)
      · replace hf := zo_f c11 hf
        refine lv_iconst (v := 0) hx hb zd_X1_isFree_49 (by decide) ?_
        have hres := Option.some.inj hf; subst hres
        exact zw_iret (v := 0) (ty := .boolean) hx hb hr hlk rfl hw zd_X1_isFree_50 (Nat.le_refl 0) (Nat.le_refl 0)
      · replace hf := zo_t c11 hf
        refine lv_iload_n hx hb zd_X1_isFree_23 rfl (lv_at hl 2 rfl) ?_
        refine lv_if_lt (tgt := 49) hx hb zd_X1_isFree_24 (by decide) (fun c12 => ?_) (fun c12 => ?_)
        · replace hf := zo_t c12 hf
          refine lv_iconst (v := 0) hx hb zd_X1_isFree_49 (by decide) ?_
          have hres := Option.some.inj hf; subst hres
          exact zw_iret (v := 0) (ty := .boolean) hx hb hr hlk rfl hw zd_X1_isFree_50 (Nat.le_refl 0) (Nat.le_refl 0)
        · replace hf := zo_f c12 hf
          refine lv_iload_n hx hb zd_X1_isFree_27 rfl (lv_at hl 2 rfl) ?_
          refine zl_aload_n hx hb zd_X1_isFree_28 rfl (lv_at hl 0 rfl) ?_
          replace hf := zo_b hf; obtain ⟨v13, ev13, hf⟩ := hf
          obtain ⟨u14, u14e, u14v⟩ := zo_b ev13
          obtain rfl := zv_r_e u14v
          refine zw_get S hK hw zk_1 (k := 2) (by decide) rfl zm_185 (Or.inl rfl) u14e zd_X1_isFree_29 ?_
          replace hf := zo_b hf; obtain ⟨a15, na15, hf⟩ := hf
          refine W.eq (g2 := F0 m 32 ls [va_rf ((some a15)), .int (x2)]) (by rw [na15] <;> rfl) ?_
          replace hf := zo_b hf; obtain ⟨v16, ev16, hf⟩ := hf
          refine zw_alen S hK hw ev16 zd_X1_isFree_32 ?_
          refine lv_icmp_ge (tgt := 49) hx hb zd_X1_isFree_33 (by decide) (fun c17 => ?_) (fun c17 => ?_)
          · replace hf := zo_t c17 hf
            refine lv_iconst (v := 0) hx hb zd_X1_isFree_49 (by decide) ?_
            have hres := Option.some.inj hf; subst hres
            exact zw_iret (v := 0) (ty := .boolean) hx hb hr hlk rfl hw zd_X1_isFree_50 (Nat.le_refl 0) (Nat.le_refl 0)
          · replace hf := zo_f c17 hf
            refine zl_aload_n hx hb zd_X1_isFree_36 rfl (lv_at hl 0 rfl) ?_
            replace hf := zo_b hf; obtain ⟨v18, ev18, hf⟩ := hf
            obtain ⟨u19, u19e, u19v⟩ := zo_b ev18
            obtain rfl := zv_r_e u19v
            refine zw_get S hK hw zk_1 (k := 2) (by decide) rfl zm_185 (Or.inl rfl) u19e zd_X1_isFree_37 ?_
            refine lv_iload_n hx hb zd_X1_isFree_40 rfl (lv_at hl 2 rfl) ?_
            replace hf := zo_b hf; obtain ⟨a20, na20, hf⟩ := hf
            refine W.eq (g2 := F0 m 41 ls [.int (x2), va_rf ((some a20))]) (by rw [na20] <;> rfl) ?_
            replace hf := zo_b hf; obtain ⟨v21, ev21, hf⟩ := hf
            refine zw_zald S hK hw ev21 zd_X1_isFree_41 ?_
            refine lv_if_ne (tgt := 49) hx hb zd_X1_isFree_42 (by decide) (fun c22 => ?_) (fun c22 => ?_)
            · replace hf := zo_f c22 hf
              refine lv_iconst (v := 0) hx hb zd_X1_isFree_49 (by decide) ?_
              have hres := Option.some.inj hf; subst hres
              exact zw_iret (v := 0) (ty := .boolean) hx hb hr hlk rfl hw zd_X1_isFree_50 (Nat.le_refl 0) (Nat.le_refl 0)
            · replace hf := zo_t c22 hf
              refine lv_iconst (v := 1) hx hb zd_X1_isFree_45 (by decide) ?_
              refine lv_goto (tgt := 50) hx hb zd_X1_isFree_46 (by decide) ?_
              have hres := Option.some.inj hf; subst hres
              exact zw_iret (v := 1) (ty := .boolean) hx hb hr hlk rfl hw zd_X1_isFree_50 (Nat.le_refl 0) (Nat.le_refl 0)
def zf_X1_runAt_L3 (h : zc_H) (q : Nat) (y1 : Option Nat) (y2 : Option Nat) (y3 : Int32) (y4 : Int32) : Nat → Int32 → Option (Int32)
  | 0, _ => none
  | n + 1, y5 =>
    y1.bind fun a1 =>
    (zf_X4_count h a1).bind fun r2 =>
    if r2 ≤ (y3 + y5) then
      some y5
    else
    y2.bind fun a4 =>
    (zf_X4_count h a4).bind fun r5 =>
    if r5 ≤ (y4 + y5) then
      some y5
    else
    (zf_X4_lineAt h a1 (y3 + y5)).bind fun r7 =>
    (zf_X4_lineAt h a4 (y4 + y5)).bind fun r8 =>
    if (lg_cmp r7 r8) = 0 then
      (zf_X1_isFree h q (y3 + y5) (y4 + y5)).bind fun r10 =>
      if r10 = 0 then
        some y5
      else
      zf_X1_runAt_L3 h q y1 y2 y3 y4 n (y5 + 1)
    else
    some y5
def zf_X1_runAt (h : zc_H) (q : Nat) (x1 : Option Nat) (x2 : Option Nat) (x3 : Int32) (x4 : Int32) : Option (Int32) :=
  if ¬ zf_is h q 1 = true then none else
  (zf_X1_runAt_L3 h q x1 x2 x3 x4 2000 0).bind fun w12 =>
  some w12
abbrev zr_X1_runAt : Room := { frames := 1, cells := 0, slots := 0, locals := 22 }
theorem zi_X1_runAt {h : zc_H} {q : Nat} {x1 : Option Nat} {x2 : Option Nat} {x3 : Int32} {x4 : Int32} {res : Int32} (hf : zf_X1_runAt h q x1 x2 x3 x4 = some res) : zf_is h q 1 = true := Decidable.not_not.mp (zo_n hf).1
set_option maxHeartbeats 4000000 in
set_option maxRecDepth 20000 in
theorem zt_X1_runAt (l : Launch) (g : zc_G) (h : zc_H) (q : Nat) (x1 : Option Nat) (x2 : Option Nat) (x3 : Int32) (x4 : Int32) (res : Int32) (hf : zf_X1_runAt h q x1 x2 x3 x4 = some res) : zc_M l g yX1_runAt cX1_runAt 6 (some .int) zr_X1_runAt h [va_rf ((some q)), va_rf (x1), va_rf (x2), .int (x3), .int (x4)] h (some (.int (res))) := by
  refine zc_M.of (by decide) (by simp [lg_sl, zv_cat, zv_ci, zv_cj]) ?_
  intro p e s m below meth c ls S hK hw hr hlk hnm hl
  replace S : CallFix p m c cX1_runAt 6 s [va_rf ((some q)), va_rf (x1), va_rf (x2), .int (x3), .int (x4)].toArray (zc_ws yX1_runAt cX1_runAt 6 (some .int)) RX1 := S
  have hx := S.1
  have hb := S.2.1
  replace hl : lv_has ls 6 [(0, va_rf ((some q))), (1, va_rf (x1)), (2, va_rf (x2)), (3, .int (x3)), (4, .int (x4))] := by simpa [lv_args, zv_cat, zv_ci, zv_cj] using hl
  generalize s.heap = H at hw ⊢
  obtain ⟨locs, hlocs⟩ : ∃ L : List Loc, L = [] := ⟨_, rfl⟩
  rw [← hlocs] at hw ⊢
  have L3 : ∀ (h : zc_H) (y1 : Option Nat) (y2 : Option Nat) (y3 : Int32) (y4 : Int32) (n : Nat) (y5 : Int32) (w : Int32) (H : Heap) (locs : List Loc) (ls : Array Slot), zf_X1_runAt_L3 h q y1 y2 y3 y4 n y5 = some w → zc_W g h H locs → lv_has ls 6 [(0, va_rf ((some q))), (1, va_rf (y1)), (2, va_rf (y2)), (3, .int (y3)), (4, .int (y4)), (5, .int (y5))] → (∀ (H : Heap) (locs : List Loc) (ls : Array Slot), zc_W g h H locs → lv_has ls 6 [(5, .int (w))] → W p l e zr_X1_runAt s m [va_rf ((some q)), va_rf (x1), va_rf (x2), .int (x3), .int (x4)].toArray below meth c H locs 0 0 (zc_Q g below zr_X1_runAt (some (.int (res))) h [va_rf ((some q)), va_rf (x1), va_rf (x2), .int (x3), .int (x4)] s) (F0 m 69 ls [])) → W p l e zr_X1_runAt s m [va_rf ((some q)), va_rf (x1), va_rf (x2), .int (x3), .int (x4)].toArray below meth c H locs 0 0 (zc_Q g below zr_X1_runAt (some (.int (res))) h [va_rf ((some q)), va_rf (x1), va_rf (x2), .int (x3), .int (x4)] s) (F0 m 3 ls []) := by
    intro h y1 y2 y3 y4 n
    induction n with
    | zero =>
      intro y5 w H locs ls hf
      cases hf
    | succ n ih =>
      intro y5 w H locs ls hf hw hl  kk
      unfold zf_X1_runAt_L3 at hf
      refine lv_iload_n hx hb zd_X1_runAt_3 rfl (lv_at hl 3 rfl) ?_
      refine lv_iload hx hb zd_X1_runAt_4 (lv_at hl 5 rfl) ?_
      refine lv_iadd hx hb zd_X1_runAt_6 ?_
      refine zl_aload_n hx hb zd_X1_runAt_7 rfl (lv_at hl 1 rfl) ?_
      replace hf := zo_b hf; obtain ⟨a1, na1, hf⟩ := hf
      refine W.eq (g2 := F0 m 8 ls [va_rf ((some a1)), .int ((y3 + y5))]) (by rw [na1] <;> rfl) ?_
      replace hf := zo_b hf; obtain ⟨r2, er2, hf⟩ := hf
      refine zw_callV (n := 0) (ci := 4) (q := zc_cl[4]) (As := []) (rest := [.int ((y3 + y5))]) S hK hw (zt_X4_count l g h a1 _ er2) zm_617 zm_618 zm_619 zq_X4_count zm_84 (by decide +kernel) ⟨Nat.le_of_ble_eq_true rfl, Nat.le_of_ble_eq_true rfl⟩ rfl rfl rfl (zi_X4_count er2) hl.1 rfl (by simp [zv_cat, zv_ci, zv_cj]) zd_X1_runAt_8 ⟨(Nat.le_refl 0), (Nat.le_refl 0)⟩ (fun H locs hw => ?_)
      replace hw : zc_W g h H locs := hw
      refine lv_icmp_ge (tgt := 69) hx hb zd_X1_runAt_11 (by decide) (fun c3 => ?_) (fun c3 => ?_)
      · replace hf := zo_t c3 hf
        have hres := Option.some.inj hf; subst hres
        exact kk _ _ _ hw (lv_sub hl [5] rfl)
      · replace hf := zo_f c3 hf
        refine lv_iload hx hb zd_X1_runAt_14 (lv_at hl 4 rfl) ?_
        refine lv_iload hx hb zd_X1_runAt_16 (lv_at hl 5 rfl) ?_
        refine lv_iadd hx hb zd_X1_runAt_18 ?_
        refine zl_aload_n hx hb zd_X1_runAt_19 rfl (lv_at hl 2 rfl) ?_
        replace hf := zo_b hf; obtain ⟨a4, na4, hf⟩ := hf
        refine W.eq (g2 := F0 m 20 ls [va_rf ((some a4)), .int ((y4 + y5))]) (by rw [na4] <;> rfl) ?_
        replace hf := zo_b hf; obtain ⟨r5, er5, hf⟩ := hf
        refine zw_callV (n := 0) (ci := 4) (q := zc_cl[4]) (As := []) (rest := [.int ((y4 + y5))]) S hK hw (zt_X4_count l g h a4 _ er5) zm_617 zm_618 zm_619 zq_X4_count zm_84 (by decide +kernel) ⟨Nat.le_of_ble_eq_true rfl, Nat.le_of_ble_eq_true rfl⟩ rfl rfl rfl (zi_X4_count er5) hl.1 rfl (by simp [zv_cat, zv_ci, zv_cj]) zd_X1_runAt_20 ⟨(Nat.le_refl 0), (Nat.le_refl 0)⟩ (fun H locs hw => ?_)
        replace hw : zc_W g h H locs := hw
        refine lv_icmp_ge (tgt := 69) hx hb zd_X1_runAt_23 (by decide) (fun c6 => ?_) (fun c6 => ?_)
        · replace hf := zo_t c6 hf
          have hres := Option.some.inj hf; subst hres
          exact kk _ _ _ hw (lv_sub hl [5] rfl)
        · replace hf := zo_f c6 hf
          refine zl_aload_n hx hb zd_X1_runAt_26 rfl (lv_at hl 1 rfl) ?_
          refine lv_iload_n hx hb zd_X1_runAt_27 rfl (lv_at hl 3 rfl) ?_
          refine lv_iload hx hb zd_X1_runAt_28 (lv_at hl 5 rfl) ?_
          refine lv_iadd hx hb zd_X1_runAt_30 ?_
          refine W.eq (g2 := F0 m 31 ls [.int ((y3 + y5)), va_rf ((some a1))]) (by rw [na1] <;> rfl) ?_
          replace hf := zo_b hf; obtain ⟨r7, er7, hf⟩ := hf
          refine zw_callV (n := 1) (ci := 4) (q := zc_cl[4]) (As := [.int ((y3 + y5))]) (rest := []) S hK hw (zt_X4_lineAt l g h a1 (y3 + y5) _ er7) zm_621 zm_622 zm_623 zq_X4_lineAt zm_84 (by decide +kernel) ⟨Nat.le_of_ble_eq_true rfl, Nat.le_of_ble_eq_true rfl⟩ rfl rfl rfl (zi_X4_lineAt er7) hl.1 rfl (by simp [zv_cat, zv_ci, zv_cj]) zd_X1_runAt_31 ⟨(Nat.le_refl 0), (Nat.le_refl 0)⟩ (fun H locs hw => ?_)
          replace hw : zc_W g h H locs := hw
          refine zl_aload_n hx hb zd_X1_runAt_34 rfl (lv_at hl 2 rfl) ?_
          refine lv_iload hx hb zd_X1_runAt_35 (lv_at hl 4 rfl) ?_
          refine lv_iload hx hb zd_X1_runAt_37 (lv_at hl 5 rfl) ?_
          refine lv_iadd hx hb zd_X1_runAt_39 ?_
          refine W.eq (g2 := F0 m 40 ls [.int ((y4 + y5)), va_rf ((some a4)), .long (r7)]) (by rw [na4] <;> rfl) ?_
          replace hf := zo_b hf; obtain ⟨r8, er8, hf⟩ := hf
          refine zw_callV (n := 1) (ci := 4) (q := zc_cl[4]) (As := [.int ((y4 + y5))]) (rest := [.long (r7)]) S hK hw (zt_X4_lineAt l g h a4 (y4 + y5) _ er8) zm_621 zm_622 zm_623 zq_X4_lineAt zm_84 (by decide +kernel) ⟨Nat.le_of_ble_eq_true rfl, Nat.le_of_ble_eq_true rfl⟩ rfl rfl rfl (zi_X4_lineAt er8) hl.1 rfl (by simp [zv_cat, zv_ci, zv_cj]) zd_X1_runAt_40 ⟨(Nat.le_refl 0), (Nat.le_refl 0)⟩ (fun H locs hw => ?_)
          replace hw : zc_W g h H locs := hw
          refine W.lcmp hx hb zd_X1_runAt_43 ?_
          refine lv_if_ne (tgt := 69) hx hb zd_X1_runAt_44 (by decide) (fun c9 => ?_) (fun c9 => ?_)
          · replace hf := zo_f c9 hf
            have hres := Option.some.inj hf; subst hres
            exact kk _ _ _ hw (lv_sub hl [5] rfl)
          · replace hf := zo_t c9 hf
            refine zl_aload_n hx hb zd_X1_runAt_47 rfl (lv_at hl 0 rfl) ?_
            refine lv_iload_n hx hb zd_X1_runAt_48 rfl (lv_at hl 3 rfl) ?_
            refine lv_iload hx hb zd_X1_runAt_49 (lv_at hl 5 rfl) ?_
            refine lv_iadd hx hb zd_X1_runAt_51 ?_
            refine lv_iload hx hb zd_X1_runAt_52 (lv_at hl 4 rfl) ?_
            refine lv_iload hx hb zd_X1_runAt_54 (lv_at hl 5 rfl) ?_
            refine lv_iadd hx hb zd_X1_runAt_56 ?_
            replace hf := zo_b hf; obtain ⟨r10, er10, hf⟩ := hf
            refine zw_callV (n := 2) (ci := 1) (q := zc_cl[1]) (As := [.int ((y3 + y5)), .int ((y4 + y5))]) (rest := []) S hK hw (zt_X1_isFree l g h q (y3 + y5) (y4 + y5) _ er10) zm_646 zm_648 zm_13 zq_X1_isFree zm_74 (by decide +kernel) ⟨Nat.le_of_ble_eq_true rfl, Nat.le_of_ble_eq_true rfl⟩ rfl rfl rfl (zi_X1_isFree er10) hl.1 rfl (by simp [zv_cat, zv_ci, zv_cj]) zd_X1_runAt_57 ⟨(Nat.le_refl 0), (Nat.le_refl 0)⟩ (fun H locs hw => ?_)
            replace hw : zc_W g h H locs := hw
            refine lv_if_eq (tgt := 69) hx hb zd_X1_runAt_60 (by decide) (fun c11 => ?_) (fun c11 => ?_)
            · replace hf := zo_t c11 hf
              have hres := Option.some.inj hf; subst hres
              exact kk _ _ _ hw (lv_sub hl [5] rfl)
            · replace hf := zo_f c11 hf
              refine lv_iinc (i := 5) (v := (y5 + 1)) (lv' := [(5, .int ((y5 + 1))), (0, va_rf ((some q))), (1, va_rf (y1)), (2, va_rf (y2)), (3, .int (y3)), (4, .int (y4))]) hx hb zd_X1_runAt_63 hl (k := 5) rfl (congrArg (_ + ·) (by decide)) (by decide) rfl (fun ls hl => ?_)
              refine lv_goto (tgt := 3) hx hb zd_X1_runAt_66 (by decide) ?_
              exact ih (y5 + 1) _ _ _ _ hf hw (lv_sub hl [1, 2, 3, 4, 5, 0] rfl) kk
  unfold zf_X1_runAt at hf
  obtain ⟨-, hf⟩ := zo_n hf
  refine lv_iconst (v := 0) hx hb zd_X1_runAt_0 (by decide) ?_
  refine lv_istore (i := 5) (lv' := [(5, .int (0)), (0, va_rf ((some q))), (1, va_rf (x1)), (2, va_rf (x2)), (3, .int (x3)), (4, .int (x4))]) hx hb zd_X1_runAt_1 hl (by decide) rfl (fun ls hl => ?_)
  replace hf := zo_b hf; obtain ⟨w12, w12e, hf⟩ := hf
  refine L3 h x1 x2 x3 x4 2000 0 _ _ _ _ w12e hw (lv_sub hl [1, 2, 3, 4, 5, 0] rfl) (fun H locs ls hw hl => ?_)
  refine lv_iload hx hb zd_X1_runAt_69 (lv_at hl 0 rfl) ?_
  have hres := Option.some.inj hf; subst hres
  exact zw_iret (v := w12) (ty := .int) hx hb hr hlk rfl hw zd_X1_runAt_71 (Nat.le_refl 0) (Nat.le_refl 0)
def zf_X1_moveLongest_L24 (h : zc_H) (q : Nat) (y1 : Option Nat) (y2 : Option Nat) (y3 : Int32) (y7 : Int32) : Nat → Int32 → Int32 → Int32 → Int32 → Option (Int32 × Int32 × Int32)
  | 0, _, _, _, _ => none
  | n + 1, y4, y5, y6, y8 =>
    y2.bind fun a4 =>
    (zf_X4_count h a4).bind fun r5 =>
    if r5 ≤ y8 then
      some (y4, y5, y6)
    else
    (zf_X1_runAt h q y1 y2 y7 y8).bind fun r7 =>
    let k64 := fun (y64_4 : Int32) (y64_5 : Int32) (y64_6 : Int32) =>
      zf_X1_moveLongest_L24 h q y1 y2 y3 y7 n y64_4 y64_5 y64_6 (y8 + 1)
    if r7 ≤ y4 then
      k64 y4 y5 y6
    else
    k64 r7 y7 y8
def zf_X1_moveLongest_L12 (h : zc_H) (q : Nat) (y1 : Option Nat) (y2 : Option Nat) (y3 : Int32) : Nat → Int32 → Int32 → Int32 → Int32 → Option (Int32 × Int32 × Int32)
  | 0, _, _, _, _ => none
  | n + 1, y4, y5, y6, y7 =>
    y1.bind fun a1 =>
    (zf_X4_count h a1).bind fun r2 =>
    if r2 ≤ y7 then
      some (y4, y5, y6)
    else
    (zf_X1_moveLongest_L24 h q y1 y2 y3 y7 2000 y4 y5 y6 0).bind fun w9 =>
    zf_X1_moveLongest_L12 h q y1 y2 y3 n w9.1 w9.2.1 w9.2.2 (y7 + 1)
def zf_X1_moveLongest_L92 (q : Nat) (y4 : Int32) (y5 : Int32) (y6 : Int32) : Nat → zc_H → Int32 → Option (zc_H)
  | 0, _, _ => none
  | n + 1, h, y7 =>
    if y4 ≤ y7 then
      some h
    else
    (zf_X1_take h q (y5 + y7) (y6 + y7)).bind fun r14 =>
    zf_X1_moveLongest_L92 q y4 y5 y6 n r14 (y7 + 1)
def zf_X1_moveLongest (h : zc_H) (q : Nat) (x1 : Option Nat) (x2 : Option Nat) (x3 : Int32) : Option (zc_H × Int32) :=
  if ¬ zf_is h q 1 = true then none else
  (zf_X1_moveLongest_L12 h q x1 x2 x3 2000 0 0 0 0).bind fun w10 =>
  if w10.1 = 0 then
    some (h, 0)
  else
  if x3 ≤ w10.1 then
    (zf_X1_moveLongest_L92 q w10.1 w10.2.1 w10.2.2 2000 h 0).bind fun w15 =>
    (zf_gi w15 q 1 4).bind fun v16 =>
    (zf_p w15 q 1 4 (.int ((v16 + w10.1)))).bind fun h18 =>
    some (h18, 1)
  else
  some (h, 0)
abbrev zr_X1_moveLongest : Room := { frames := 2, cells := 0, slots := 0, locals := 47 }
theorem zi_X1_moveLongest {h : zc_H} {q : Nat} {x1 : Option Nat} {x2 : Option Nat} {x3 : Int32} {res : zc_H × Int32} (hf : zf_X1_moveLongest h q x1 x2 x3 = some res) : zf_is h q 1 = true := Decidable.not_not.mp (zo_n hf).1
set_option maxHeartbeats 4000000 in
set_option maxRecDepth 20000 in
theorem zt_X1_moveLongest (l : Launch) (g : zc_G) (h : zc_H) (q : Nat) (x1 : Option Nat) (x2 : Option Nat) (x3 : Int32) (res : zc_H × Int32) (hf : zf_X1_moveLongest h q x1 x2 x3 = some res) : zc_M l g yX1_moveLongest cX1_moveLongest 10 (some .boolean) zr_X1_moveLongest h [va_rf ((some q)), va_rf (x1), va_rf (x2), .int (x3)] res.1 (some (.int (res.2))) := by
  refine zc_M.of (by decide) (by simp [lg_sl, zv_cat, zv_ci, zv_cj]) ?_
  intro p e s m below meth c ls S hK hw hr hlk hnm hl
  replace S : CallFix p m c cX1_moveLongest 10 s [va_rf ((some q)), va_rf (x1), va_rf (x2), .int (x3)].toArray (zc_ws yX1_moveLongest cX1_moveLongest 10 (some .boolean)) RX1 := S
  have hx := S.1
  have hb := S.2.1
  replace hl : lv_has ls 10 [(0, va_rf ((some q))), (1, va_rf (x1)), (2, va_rf (x2)), (3, .int (x3))] := by simpa [lv_args, zv_cat, zv_ci, zv_cj] using hl
  generalize s.heap = H at hw ⊢
  obtain ⟨locs, hlocs⟩ : ∃ L : List Loc, L = [] := ⟨_, rfl⟩
  rw [← hlocs] at hw ⊢
  have L24 : ∀ (h : zc_H) (y1 : Option Nat) (y2 : Option Nat) (y3 : Int32) (y7 : Int32) (n : Nat) (y4 : Int32) (y5 : Int32) (y6 : Int32) (y8 : Int32) (w : Int32 × Int32 × Int32) (H : Heap) (locs : List Loc) (ls : Array Slot), zf_X1_moveLongest_L24 h q y1 y2 y3 y7 n y4 y5 y6 y8 = some w → zc_W g h H locs → lv_has ls 10 [(0, va_rf ((some q))), (1, va_rf (y1)), (2, va_rf (y2)), (3, .int (y3)), (4, .int (y4)), (5, .int (y5)), (6, .int (y6)), (7, .int (y7)), (8, .int (y8))] → (∀ (H : Heap) (locs : List Loc) (ls : Array Slot), zc_W g h H locs → lv_has ls 10 [(0, va_rf ((some q))), (1, va_rf (y1)), (2, va_rf (y2)), (3, .int (y3)), (4, .int (w.1)), (5, .int (w.2.1)), (6, .int (w.2.2)), (7, .int (y7))] → W p l e zr_X1_moveLongest s m [va_rf ((some q)), va_rf (x1), va_rf (x2), .int (x3)].toArray below meth c H locs 0 0 (zc_Q g below zr_X1_moveLongest (some (.int (res.2))) res.1 [va_rf ((some q)), va_rf (x1), va_rf (x2), .int (x3)] s) (F0 m 70 ls [])) → W p l e zr_X1_moveLongest s m [va_rf ((some q)), va_rf (x1), va_rf (x2), .int (x3)].toArray below meth c H locs 0 0 (zc_Q g below zr_X1_moveLongest (some (.int (res.2))) res.1 [va_rf ((some q)), va_rf (x1), va_rf (x2), .int (x3)] s) (F0 m 24 ls []) := by
    intro h y1 y2 y3 y7 n
    induction n with
    | zero =>
      intro y4 y5 y6 y8 w H locs ls hf
      cases hf
    | succ n ih =>
      intro y4 y5 y6 y8 w H locs ls hf hw hl  kk
      unfold zf_X1_moveLongest_L24 at hf
      refine lv_iload hx hb zd_X1_moveLongest_24 (lv_at hl 8 rfl) ?_
      refine zl_aload_n hx hb zd_X1_moveLongest_26 rfl (lv_at hl 2 rfl) ?_
      replace hf := zo_b hf; obtain ⟨a4, na4, hf⟩ := hf
      refine W.eq (g2 := F0 m 27 ls [va_rf ((some a4)), .int (y8)]) (by rw [na4] <;> rfl) ?_
      replace hf := zo_b hf; obtain ⟨r5, er5, hf⟩ := hf
      refine zw_callV (n := 0) (ci := 4) (q := zc_cl[4]) (As := []) (rest := [.int (y8)]) S hK hw (zt_X4_count l g h a4 _ er5) zm_617 zm_618 zm_619 zq_X4_count zm_84 (by decide +kernel) ⟨Nat.le_of_ble_eq_true rfl, Nat.le_of_ble_eq_true rfl⟩ rfl rfl rfl (zi_X4_count er5) hl.1 rfl (by simp [zv_cat, zv_ci, zv_cj]) zd_X1_moveLongest_27 ⟨(Nat.le_refl 0), (Nat.le_refl 0)⟩ (fun H locs hw => ?_)
      replace hw : zc_W g h H locs := hw
      refine lv_icmp_ge (tgt := 70) hx hb zd_X1_moveLongest_30 (by decide) (fun c6 => ?_) (fun c6 => ?_)
      · replace hf := zo_t c6 hf
        have hres := Option.some.inj hf; subst hres
        exact kk _ _ _ hw (lv_sub hl [0, 1, 2, 3, 4, 5, 6, 7] rfl)
      · replace hf := zo_f c6 hf
        refine zl_aload_n hx hb zd_X1_moveLongest_33 rfl (lv_at hl 0 rfl) ?_
        refine zl_aload_n hx hb zd_X1_moveLongest_34 rfl (lv_at hl 1 rfl) ?_
        refine zl_aload_n hx hb zd_X1_moveLongest_35 rfl (lv_at hl 2 rfl) ?_
        refine lv_iload hx hb zd_X1_moveLongest_36 (lv_at hl 7 rfl) ?_
        refine lv_iload hx hb zd_X1_moveLongest_38 (lv_at hl 8 rfl) ?_
        replace hf := zo_b hf; obtain ⟨r7, er7, hf⟩ := hf
        refine zw_callV (n := 4) (ci := 1) (q := zc_cl[1]) (As := [va_rf (y1), va_rf (y2), .int (y7), .int (y8)]) (rest := []) S hK hw (zt_X1_runAt l g h q y1 y2 y7 y8 _ er7) zm_642 zm_644 zm_12 zq_X1_runAt zm_74 (by decide +kernel) ⟨Nat.le_of_ble_eq_true rfl, Nat.le_of_ble_eq_true rfl⟩ rfl rfl rfl (zi_X1_runAt er7) hl.1 rfl (by simp [zv_cat, zv_ci, zv_cj]) zd_X1_moveLongest_40 ⟨(Nat.le_refl 0), (Nat.le_refl 0)⟩ (fun H locs hw => ?_)
        replace hw : zc_W g h H locs := hw
        refine lv_istore (i := 9) (lv' := [(9, .int (r7)), (0, va_rf ((some q))), (1, va_rf (y1)), (2, va_rf (y2)), (3, .int (y3)), (4, .int (y4)), (5, .int (y5)), (6, .int (y6)), (7, .int (y7)), (8, .int (y8))]) hx hb zd_X1_moveLongest_43 hl (by decide) rfl (fun ls hl => ?_)
        refine lv_iload hx hb zd_X1_moveLongest_45 (lv_at hl 0 rfl) ?_
        refine lv_iload hx hb zd_X1_moveLongest_47 (lv_at hl 5 rfl) ?_
        have k64h : ∀ (y64_4 : Int32) (y64_5 : Int32) (y64_6 : Int32) (H : Heap) (locs : List Loc) (ls : Array Slot), (
            zf_X1_moveLongest_L24 h q y1 y2 y3 y7 n y64_4 y64_5 y64_6 (y8 + 1)
            ) = some w → zc_W g h H locs → lv_has ls 10 [(0, va_rf ((some q))), (1, va_rf (y1)), (2, va_rf (y2)), (3, .int (y3)), (4, .int (y64_4)), (5, .int (y64_5)), (6, .int (y64_6)), (7, .int (y7)), (8, .int (y8))] → W p l e zr_X1_moveLongest s m [va_rf ((some q)), va_rf (x1), va_rf (x2), .int (x3)].toArray below meth c H locs ((0 + 0) + 0) ((0 + 0) + 0) (zc_Q g below zr_X1_moveLongest (some (.int (res.2))) res.1 [va_rf ((some q)), va_rf (x1), va_rf (x2), .int (x3)] s) (F0 m 64 ls []) := by
          intro y64_4 y64_5 y64_6 H locs ls hf hw hl
          refine lv_iinc (i := 8) (v := (y8 + 1)) (lv' := [(8, .int ((y8 + 1))), (0, va_rf ((some q))), (1, va_rf (y1)), (2, va_rf (y2)), (3, .int (y3)), (4, .int (y64_4)), (5, .int (y64_5)), (6, .int (y64_6)), (7, .int (y7))]) hx hb zd_X1_moveLongest_64 hl (k := 8) rfl (congrArg (_ + ·) (by decide)) (by decide) rfl (fun ls hl => ?_)
          refine lv_goto (tgt := 24) hx hb zd_X1_moveLongest_67 (by decide) ?_
          exact ih y64_4 y64_5 y64_6 (y8 + 1) _ _ _ _ hf hw (lv_sub hl [1, 2, 3, 4, 5, 6, 7, 8, 0] rfl) kk
        refine lv_icmp_le (tgt := 64) hx hb zd_X1_moveLongest_49 (by decide) (fun c8 => ?_) (fun c8 => ?_)
        · replace hf := zo_t c8 hf
          exact k64h y4 y5 y6 _ _ _ hf hw (lv_sub hl [1, 2, 3, 4, 5, 6, 7, 8, 9] rfl)
        · replace hf := zo_f c8 hf
          refine lv_iload hx hb zd_X1_moveLongest_52 (lv_at hl 0 rfl) ?_
          refine lv_istore (i := 4) (lv' := [(4, .int (r7)), (9, .int (r7)), (0, va_rf ((some q))), (1, va_rf (y1)), (2, va_rf (y2)), (3, .int (y3)), (5, .int (y5)), (6, .int (y6)), (7, .int (y7)), (8, .int (y8))]) hx hb zd_X1_moveLongest_54 hl (by decide) rfl (fun ls hl => ?_)
          refine lv_iload hx hb zd_X1_moveLongest_56 (lv_at hl 8 rfl) ?_
          refine lv_istore (i := 5) (lv' := [(5, .int (y7)), (4, .int (r7)), (9, .int (r7)), (0, va_rf ((some q))), (1, va_rf (y1)), (2, va_rf (y2)), (3, .int (y3)), (6, .int (y6)), (7, .int (y7)), (8, .int (y8))]) hx hb zd_X1_moveLongest_58 hl (by decide) rfl (fun ls hl => ?_)
          refine lv_iload hx hb zd_X1_moveLongest_60 (lv_at hl 9 rfl) ?_
          refine lv_istore (i := 6) (lv' := [(6, .int (y8)), (5, .int (y7)), (4, .int (r7)), (9, .int (r7)), (0, va_rf ((some q))), (1, va_rf (y1)), (2, va_rf (y2)), (3, .int (y3)), (7, .int (y7)), (8, .int (y8))]) hx hb zd_X1_moveLongest_62 hl (by decide) rfl (fun ls hl => ?_)
          exact k64h r7 y7 y8 _ _ _ hf hw (lv_sub hl [4, 5, 6, 7, 2, 1, 0, 8, 9] rfl)
  have L12 : ∀ (h : zc_H) (y1 : Option Nat) (y2 : Option Nat) (y3 : Int32) (n : Nat) (y4 : Int32) (y5 : Int32) (y6 : Int32) (y7 : Int32) (w : Int32 × Int32 × Int32) (H : Heap) (locs : List Loc) (ls : Array Slot), zf_X1_moveLongest_L12 h q y1 y2 y3 n y4 y5 y6 y7 = some w → zc_W g h H locs → lv_has ls 10 [(0, va_rf ((some q))), (1, va_rf (y1)), (2, va_rf (y2)), (3, .int (y3)), (4, .int (y4)), (5, .int (y5)), (6, .int (y6)), (7, .int (y7))] → (∀ (H : Heap) (locs : List Loc) (ls : Array Slot), zc_W g h H locs → lv_has ls 10 [(0, va_rf ((some q))), (3, .int (y3)), (4, .int (w.1)), (5, .int (w.2.1)), (6, .int (w.2.2))] → W p l e zr_X1_moveLongest s m [va_rf ((some q)), va_rf (x1), va_rf (x2), .int (x3)].toArray below meth c H locs 0 0 (zc_Q g below zr_X1_moveLongest (some (.int (res.2))) res.1 [va_rf ((some q)), va_rf (x1), va_rf (x2), .int (x3)] s) (F0 m 76 ls [])) → W p l e zr_X1_moveLongest s m [va_rf ((some q)), va_rf (x1), va_rf (x2), .int (x3)].toArray below meth c H locs 0 0 (zc_Q g below zr_X1_moveLongest (some (.int (res.2))) res.1 [va_rf ((some q)), va_rf (x1), va_rf (x2), .int (x3)] s) (F0 m 12 ls []) := by
    intro h y1 y2 y3 n
    induction n with
    | zero =>
      intro y4 y5 y6 y7 w H locs ls hf
      cases hf
    | succ n ih =>
      intro y4 y5 y6 y7 w H locs ls hf hw hl  kk
      unfold zf_X1_moveLongest_L12 at hf
      refine lv_iload hx hb zd_X1_moveLongest_12 (lv_at hl 7 rfl) ?_
      refine zl_aload_n hx hb zd_X1_moveLongest_14 rfl (lv_at hl 1 rfl) ?_
      replace hf := zo_b hf; obtain ⟨a1, na1, hf⟩ := hf
      refine W.eq (g2 := F0 m 15 ls [va_rf ((some a1)), .int (y7)]) (by rw [na1] <;> rfl) ?_
      replace hf := zo_b hf; obtain ⟨r2, er2, hf⟩ := hf
      refine zw_callV (n := 0) (ci := 4) (q := zc_cl[4]) (As := []) (rest := [.int (y7)]) S hK hw (zt_X4_count l g h a1 _ er2) zm_617 zm_618 zm_619 zq_X4_count zm_84 (by decide +kernel) ⟨Nat.le_of_ble_eq_true rfl, Nat.le_of_ble_eq_true rfl⟩ rfl rfl rfl (zi_X4_count er2) hl.1 rfl (by simp [zv_cat, zv_ci, zv_cj]) zd_X1_moveLongest_15 ⟨(Nat.le_refl 0), (Nat.le_refl 0)⟩ (fun H locs hw => ?_)
      replace hw : zc_W g h H locs := hw
      refine lv_icmp_ge (tgt := 76) hx hb zd_X1_moveLongest_18 (by decide) (fun c3 => ?_) (fun c3 => ?_)
      · replace hf := zo_t c3 hf
        have hres := Option.some.inj hf; subst hres
        exact kk _ _ _ hw (lv_sub hl [0, 3, 4, 5, 6] rfl)
      · replace hf := zo_f c3 hf
        refine lv_iconst (v := 0) hx hb zd_X1_moveLongest_21 (by decide) ?_
        refine lv_istore (i := 8) (lv' := [(8, .int (0)), (0, va_rf ((some q))), (1, va_rf (y1)), (2, va_rf (y2)), (3, .int (y3)), (4, .int (y4)), (5, .int (y5)), (6, .int (y6)), (7, .int (y7))]) hx hb zd_X1_moveLongest_22 hl (by decide) rfl (fun ls hl => ?_)
        replace hf := zo_b hf; obtain ⟨w9, w9e, hf⟩ := hf
        refine L24 h y1 y2 y3 y7 2000 y4 y5 y6 0 _ _ _ _ w9e hw (lv_sub hl [1, 2, 3, 4, 5, 6, 7, 8, 0] rfl) (fun H locs ls hw hl => ?_)
        refine lv_iinc (i := 7) (v := (y7 + 1)) (lv' := [(7, .int ((y7 + 1))), (0, va_rf ((some q))), (1, va_rf (y1)), (2, va_rf (y2)), (3, .int (y3)), (4, .int (w9.1)), (5, .int (w9.2.1)), (6, .int (w9.2.2))]) hx hb zd_X1_moveLongest_70 hl (k := 7) rfl (congrArg (_ + ·) (by decide)) (by decide) rfl (fun ls hl => ?_)
        refine lv_goto (tgt := 12) hx hb zd_X1_moveLongest_73 (by decide) ?_
        exact ih w9.1 w9.2.1 w9.2.2 (y7 + 1) _ _ _ _ hf hw (lv_sub hl [1, 2, 3, 4, 5, 6, 7, 0] rfl) kk
  have L92 : ∀ (y4 : Int32) (y5 : Int32) (y6 : Int32) (n : Nat) (h : zc_H) (y7 : Int32) (w : zc_H) (H : Heap) (locs : List Loc) (ls : Array Slot), zf_X1_moveLongest_L92 q y4 y5 y6 n h y7 = some w → zc_W g h H locs → lv_has ls 10 [(0, va_rf ((some q))), (4, .int (y4)), (5, .int (y5)), (6, .int (y6)), (7, .int (y7))] → (∀ (H : Heap) (locs : List Loc) (ls : Array Slot), zc_W g w H locs → lv_has ls 10 [(0, va_rf ((some q))), (4, .int (y4))] → W p l e zr_X1_moveLongest s m [va_rf ((some q)), va_rf (x1), va_rf (x2), .int (x3)].toArray below meth c H locs 0 0 (zc_Q g below zr_X1_moveLongest (some (.int (res.2))) res.1 [va_rf ((some q)), va_rf (x1), va_rf (x2), .int (x3)] s) (F0 m 119 ls [])) → W p l e zr_X1_moveLongest s m [va_rf ((some q)), va_rf (x1), va_rf (x2), .int (x3)].toArray below meth c H locs 0 0 (zc_Q g below zr_X1_moveLongest (some (.int (res.2))) res.1 [va_rf ((some q)), va_rf (x1), va_rf (x2), .int (x3)] s) (F0 m 92 ls []) := by
    intro y4 y5 y6 n
    induction n with
    | zero =>
      intro h y7 w H locs ls hf
      cases hf
    | succ n ih =>
      intro h y7 w H locs ls hf hw hl  kk
      unfold zf_X1_moveLongest_L92 at hf
      refine lv_iload hx hb zd_X1_moveLongest_92 (lv_at hl 4 rfl) ?_
      refine lv_iload hx hb zd_X1_moveLongest_94 (lv_at hl 1 rfl) ?_
      refine lv_icmp_ge (tgt := 119) hx hb zd_X1_moveLongest_96 (by decide) (fun c13 => ?_) (fun c13 => ?_)
      · replace hf := zo_t c13 hf
        have hres := Option.some.inj hf; subst hres
        exact kk _ _ _ hw (lv_sub hl [0, 1] rfl)
      · replace hf := zo_f c13 hf
        refine zl_aload_n hx hb zd_X1_moveLongest_99 rfl (lv_at hl 0 rfl) ?_
        refine lv_iload hx hb zd_X1_moveLongest_100 (lv_at hl 2 rfl) ?_
        refine lv_iload hx hb zd_X1_moveLongest_102 (lv_at hl 4 rfl) ?_
        refine lv_iadd hx hb zd_X1_moveLongest_104 ?_
        refine lv_iload hx hb zd_X1_moveLongest_105 (lv_at hl 3 rfl) ?_
        refine lv_iload hx hb zd_X1_moveLongest_107 (lv_at hl 4 rfl) ?_
        refine lv_iadd hx hb zd_X1_moveLongest_109 ?_
        replace hf := zo_b hf; obtain ⟨r14, er14, hf⟩ := hf
        refine zw_callV (n := 2) (ci := 1) (q := zc_cl[1]) (As := [.int ((y5 + y7)), .int ((y6 + y7))]) (rest := []) S hK hw (zt_X1_take l g h q (y5 + y7) (y6 + y7) _ er14) zm_630 zm_632 zm_9 zq_X1_take zm_74 (by decide +kernel) ⟨Nat.le_of_ble_eq_true rfl, Nat.le_of_ble_eq_true rfl⟩ rfl rfl rfl (zi_X1_take er14) hl.1 rfl (by simp [zv_cat, zv_ci, zv_cj]) zd_X1_moveLongest_110 ⟨(Nat.le_refl 0), (Nat.le_refl 0)⟩ (fun H locs hw => ?_)
        replace hw : zc_W g r14 H locs := hw
        refine lv_iinc (i := 7) (v := (y7 + 1)) (lv' := [(7, .int ((y7 + 1))), (0, va_rf ((some q))), (4, .int (y4)), (5, .int (y5)), (6, .int (y6))]) hx hb zd_X1_moveLongest_113 hl (k := 4) rfl (congrArg (_ + ·) (by decide)) (by decide) rfl (fun ls hl => ?_)
        refine lv_goto (tgt := 92) hx hb zd_X1_moveLongest_116 (by decide) ?_
        exact ih r14 (y7 + 1) _ _ _ _ hf hw (lv_sub hl [1, 2, 3, 4, 0] rfl) kk
  unfold zf_X1_moveLongest at hf
  obtain ⟨-, hf⟩ := zo_n hf
  refine lv_iconst (v := 0) hx hb zd_X1_moveLongest_0 (by decide) ?_
  refine lv_istore (i := 4) (lv' := [(4, .int (0)), (0, va_rf ((some q))), (1, va_rf (x1)), (2, va_rf (x2)), (3, .int (x3))]) hx hb zd_X1_moveLongest_1 hl (by decide) rfl (fun ls hl => ?_)
  refine lv_iconst (v := 0) hx hb zd_X1_moveLongest_3 (by decide) ?_
  refine lv_istore (i := 5) (lv' := [(5, .int (0)), (4, .int (0)), (0, va_rf ((some q))), (1, va_rf (x1)), (2, va_rf (x2)), (3, .int (x3))]) hx hb zd_X1_moveLongest_4 hl (by decide) rfl (fun ls hl => ?_)
  refine lv_iconst (v := 0) hx hb zd_X1_moveLongest_6 (by decide) ?_
  refine lv_istore (i := 6) (lv' := [(6, .int (0)), (5, .int (0)), (4, .int (0)), (0, va_rf ((some q))), (1, va_rf (x1)), (2, va_rf (x2)), (3, .int (x3))]) hx hb zd_X1_moveLongest_7 hl (by decide) rfl (fun ls hl => ?_)
  refine lv_iconst (v := 0) hx hb zd_X1_moveLongest_9 (by decide) ?_
  refine lv_istore (i := 7) (lv' := [(7, .int (0)), (6, .int (0)), (5, .int (0)), (4, .int (0)), (0, va_rf ((some q))), (1, va_rf (x1)), (2, va_rf (x2)), (3, .int (x3))]) hx hb zd_X1_moveLongest_10 hl (by decide) rfl (fun ls hl => ?_)
  replace hf := zo_b hf; obtain ⟨w10, w10e, hf⟩ := hf
  refine L12 h x1 x2 x3 2000 0 0 0 0 _ _ _ _ w10e hw (lv_sub hl [4, 5, 6, 7, 3, 2, 1, 0] rfl) (fun H locs ls hw hl => ?_)
  refine lv_iload hx hb zd_X1_moveLongest_76 (lv_at hl 2 rfl) ?_
  refine lv_if_eq (tgt := 87) hx hb zd_X1_moveLongest_78 (by decide) (fun c11 => ?_) (fun c11 => ?_)
  · replace hf := zo_t c11 hf
    refine lv_iconst (v := 0) hx hb zd_X1_moveLongest_87 (by decide) ?_
    have hres := Option.some.inj hf; subst hres
    exact zw_iret (v := 0) (ty := .boolean) hx hb hr hlk rfl hw zd_X1_moveLongest_88 (Nat.le_refl 0) (Nat.le_refl 0)
  · replace hf := zo_f c11 hf
    refine lv_iload hx hb zd_X1_moveLongest_81 (lv_at hl 2 rfl) ?_
    refine lv_iload_n hx hb zd_X1_moveLongest_83 rfl (lv_at hl 1 rfl) ?_
    refine lv_icmp_ge (tgt := 89) hx hb zd_X1_moveLongest_84 (by decide) (fun c12 => ?_) (fun c12 => ?_)
    · replace hf := zo_t c12 hf
      refine lv_iconst (v := 0) hx hb zd_X1_moveLongest_89 (by decide) ?_
      refine lv_istore (i := 7) (lv' := [(7, .int (0)), (0, va_rf ((some q))), (3, .int (x3)), (4, .int (w10.1)), (5, .int (w10.2.1)), (6, .int (w10.2.2))]) hx hb zd_X1_moveLongest_90 hl (by decide) rfl (fun ls hl => ?_)
      replace hf := zo_b hf; obtain ⟨w15, w15e, hf⟩ := hf
      refine L92 w10.1 w10.2.1 w10.2.2 2000 h 0 _ _ _ _ w15e hw (lv_sub hl [1, 3, 4, 5, 0] rfl) (fun H locs ls hw hl => ?_)
      refine zl_aload_n hx hb zd_X1_moveLongest_119 rfl (lv_at hl 0 rfl) ?_
      refine lv_dup hx hb zd_X1_moveLongest_120 rfl ?_
      replace hf := zo_b hf; obtain ⟨v16, ev16, hf⟩ := hf
      obtain ⟨u17, u17e, u17v⟩ := zo_b ev16
      obtain rfl := zv_i_e u17v
      refine zw_get S hK hw zk_1 (k := 4) (by decide) rfl zm_188 (Or.inl rfl) u17e zd_X1_moveLongest_121 ?_
      refine lv_iload hx hb zd_X1_moveLongest_124 (lv_at hl 1 rfl) ?_
      refine lv_iadd hx hb zd_X1_moveLongest_126 ?_
      replace hf := zo_b hf; obtain ⟨h18, eh18, hf⟩ := hf
      refine zw_put S hK hw zk_1 (k := 4) (by decide) rfl zm_188 (Or.inl rfl) eh18 (ty := .int) (by decide +kernel) rfl rfl zd_X1_moveLongest_127 (fun H locs hw => ?_)
      refine lv_iconst (v := 1) hx hb zd_X1_moveLongest_130 (by decide) ?_
      have hres := Option.some.inj hf; subst hres
      exact zw_iret (v := 1) (ty := .boolean) hx hb hr hlk rfl hw zd_X1_moveLongest_131 (Nat.le_refl 0) (Nat.le_refl 0)
    · replace hf := zo_f c12 hf
      refine lv_iconst (v := 0) hx hb zd_X1_moveLongest_87 (by decide) ?_
      have hres := Option.some.inj hf; subst hres
      exact zw_iret (v := 0) (ty := .boolean) hx hb hr hlk rfl hw zd_X1_moveLongest_88 (Nat.le_refl 0) (Nat.le_refl 0)
def zf_X1_match_L11 (q : Nat) (y1 : Option Nat) (y2 : Option Nat) (y3 : Int32) : Nat → zc_H → Int32 → Option (zc_H)
  | 0, _, _ => none
  | n + 1, h, y4 =>
    if 24 ≤ y4 then
      some h
    else
    (zf_gr h q 1 2).bind fun v5 =>
    v5.bind fun a7 =>
    (zf_si h a7 2 y4 (0 &&& 1)).bind fun h8 =>
    zf_X1_match_L11 q y1 y2 y3 n h8 (y4 + 1)
def zf_X1_match_L57 (q : Nat) (y1 : Option Nat) (y2 : Option Nat) (y3 : Int32) : Nat → zc_H → Int32 → Option (zc_H × ((Unit) ⊕ (Unit)))
  | 0, _, _ => none
  | n + 1, h, y4 =>
    if 24 ≤ y4 then
      some (h, (.inl ()))
    else
    (zf_X1_moveLongest h q y1 y2 y3).bind fun r15 =>
    if r15.2 = 0 then
      some (r15.1, (.inr ()))
    else
    zf_X1_match_L57 q y1 y2 y3 n r15.1 (y4 + 1)
def zf_X1_match (h : zc_H) (q : Nat) (x1 : Option Nat) (x2 : Option Nat) (x3 : Int32) : Option (zc_H) :=
  if ¬ zf_is h q 1 = true then none else
  (zf_gr h q 1 1).bind fun v1 =>
  (zf_J7_fill_53178 h v1 (-1)).bind fun r3 =>
  (zf_X1_match_L11 q x1 x2 x3 2000 r3 0).bind fun w9 =>
  (zf_p w9 q 1 3 (.int (0))).bind fun h10 =>
  (zf_p h10 q 1 4 (.int (0))).bind fun h11 =>
  (zf_X1_countCommon h11 q x1 x2).bind fun r12 =>
  (zf_X1_pairUp r12 q x1 x2).bind fun r13 =>
  (zf_X1_match_L57 q x1 x2 x3 2000 r13 0).bind fun w17 =>
  Sum.elim (fun t18 =>
    some w17.1
    ) (fun t19 =>
    some w17.1
    ) w17.2
abbrev zr_X1_match : Room := { frames := 3, cells := 0, slots := 0, locals := 76 }
theorem zi_X1_match {h : zc_H} {q : Nat} {x1 : Option Nat} {x2 : Option Nat} {x3 : Int32} {res : zc_H} (hf : zf_X1_match h q x1 x2 x3 = some res) : zf_is h q 1 = true := Decidable.not_not.mp (zo_n hf).1
set_option maxHeartbeats 4000000 in
set_option maxRecDepth 20000 in
theorem zt_X1_match (l : Launch) (g : zc_G) (h : zc_H) (q : Nat) (x1 : Option Nat) (x2 : Option Nat) (x3 : Int32) (res : zc_H) (hf : zf_X1_match h q x1 x2 x3 = some res) : zc_M l g yX1_match cX1_match 5 none zr_X1_match h [va_rf ((some q)), va_rf (x1), va_rf (x2), .int (x3)] res none := by
  refine zc_M.of (by decide) (by simp [lg_sl, zv_cat, zv_ci, zv_cj]) ?_
  intro p e s m below meth c ls S hK hw hr hlk hnm hl
  replace S : CallFix p m c cX1_match 5 s [va_rf ((some q)), va_rf (x1), va_rf (x2), .int (x3)].toArray (zc_ws yX1_match cX1_match 5 none) RX1 := S
  have hx := S.1
  have hb := S.2.1
  replace hl : lv_has ls 5 [(0, va_rf ((some q))), (1, va_rf (x1)), (2, va_rf (x2)), (3, .int (x3))] := by simpa [lv_args, zv_cat, zv_ci, zv_cj] using hl
  generalize s.heap = H at hw ⊢
  obtain ⟨locs, hlocs⟩ : ∃ L : List Loc, L = [] := ⟨_, rfl⟩
  rw [← hlocs] at hw ⊢
  have L11 : ∀ (y1 : Option Nat) (y2 : Option Nat) (y3 : Int32) (n : Nat) (h : zc_H) (y4 : Int32) (w : zc_H) (H : Heap) (locs : List Loc) (ls : Array Slot), zf_X1_match_L11 q y1 y2 y3 n h y4 = some w → zc_W g h H locs → lv_has ls 5 [(0, va_rf ((some q))), (1, va_rf (y1)), (2, va_rf (y2)), (3, .int (y3)), (4, .int (y4))] → (∀ (H : Heap) (locs : List Loc) (ls : Array Slot), zc_W g w H locs → lv_has ls 5 [(0, va_rf ((some q))), (1, va_rf (y1)), (2, va_rf (y2)), (3, .int (y3))] → W p l e zr_X1_match s m [va_rf ((some q)), va_rf (x1), va_rf (x2), .int (x3)].toArray below meth c H locs 0 0 (zc_Q g below zr_X1_match none res [va_rf ((some q)), va_rf (x1), va_rf (x2), .int (x3)] s) (F0 m 32 ls [])) → W p l e zr_X1_match s m [va_rf ((some q)), va_rf (x1), va_rf (x2), .int (x3)].toArray below meth c H locs 0 0 (zc_Q g below zr_X1_match none res [va_rf ((some q)), va_rf (x1), va_rf (x2), .int (x3)] s) (F0 m 11 ls []) := by
    intro y1 y2 y3 n
    induction n with
    | zero =>
      intro h y4 w H locs ls hf
      cases hf
    | succ n ih =>
      intro h y4 w H locs ls hf hw hl  kk
      unfold zf_X1_match_L11 at hf
      refine lv_iload hx hb zd_X1_match_11 (lv_at hl 4 rfl) ?_
      refine lv_bipush (v := 24) hx hb zd_X1_match_13 (by decide) ?_
      refine lv_icmp_ge (tgt := 32) hx hb zd_X1_match_15 (by decide) (fun c4 => ?_) (fun c4 => ?_)
      · replace hf := zo_t c4 hf
        have hres := Option.some.inj hf; subst hres
        exact kk _ _ _ hw (lv_sub hl [0, 1, 2, 3] rfl)
      · replace hf := zo_f c4 hf
        refine zl_aload_n hx hb zd_X1_match_18 rfl (lv_at hl 0 rfl) ?_
        replace hf := zo_b hf; obtain ⟨v5, ev5, hf⟩ := hf
        obtain ⟨u6, u6e, u6v⟩ := zo_b ev5
        obtain rfl := zv_r_e u6v
        refine zw_get S hK hw zk_1 (k := 2) (by decide) rfl zm_185 (Or.inl rfl) u6e zd_X1_match_19 ?_
        refine lv_iload hx hb zd_X1_match_22 (lv_at hl 4 rfl) ?_
        refine lv_iconst (v := 0) hx hb zd_X1_match_24 (by decide) ?_
        replace hf := zo_b hf; obtain ⟨a7, na7, hf⟩ := hf
        refine W.eq (g2 := F0 m 25 ls [.int (0), .int (y4), va_rf ((some a7))]) (by rw [na7] <;> rfl) ?_
        replace hf := zo_b hf; obtain ⟨h8, eh8, hf⟩ := hf
        refine zw_zast S hK hw eh8 zd_X1_match_25 (fun H locs hw => ?_)
        refine lv_iinc (i := 4) (v := (y4 + 1)) (lv' := [(4, .int ((y4 + 1))), (0, va_rf ((some q))), (1, va_rf (y1)), (2, va_rf (y2)), (3, .int (y3))]) hx hb zd_X1_match_26 hl (k := 4) rfl (congrArg (_ + ·) (by decide)) (by decide) rfl (fun ls hl => ?_)
        refine lv_goto (tgt := 11) hx hb zd_X1_match_29 (by decide) ?_
        exact ih h8 (y4 + 1) _ _ _ _ hf hw (lv_sub hl [1, 2, 3, 4, 0] rfl) kk
  have L57 : ∀ (y1 : Option Nat) (y2 : Option Nat) (y3 : Int32) (n : Nat) (h : zc_H) (y4 : Int32) (w : zc_H × ((Unit) ⊕ (Unit))) (H : Heap) (locs : List Loc) (ls : Array Slot), zf_X1_match_L57 q y1 y2 y3 n h y4 = some w → zc_W g h H locs → lv_has ls 5 [(0, va_rf ((some q))), (1, va_rf (y1)), (2, va_rf (y2)), (3, .int (y3)), (4, .int (y4))] → (∀ (t : Unit) (H : Heap) (locs : List Loc) (ls : Array Slot), w.2 = (.inl t) → zc_W g w.1 H locs → lv_has ls 5 [] → W p l e zr_X1_match s m [va_rf ((some q)), va_rf (x1), va_rf (x2), .int (x3)].toArray below meth c H locs 0 0 (zc_Q g below zr_X1_match none res [va_rf ((some q)), va_rf (x1), va_rf (x2), .int (x3)] s) (F0 m 83 ls [])) → (∀ (t : Unit) (H : Heap) (locs : List Loc) (ls : Array Slot), w.2 = (.inr t) → zc_W g w.1 H locs → lv_has ls 5 [] → W p l e zr_X1_match s m [va_rf ((some q)), va_rf (x1), va_rf (x2), .int (x3)].toArray below meth c H locs 0 0 (zc_Q g below zr_X1_match none res [va_rf ((some q)), va_rf (x1), va_rf (x2), .int (x3)] s) (F0 m 74 ls [])) → W p l e zr_X1_match s m [va_rf ((some q)), va_rf (x1), va_rf (x2), .int (x3)].toArray below meth c H locs 0 0 (zc_Q g below zr_X1_match none res [va_rf ((some q)), va_rf (x1), va_rf (x2), .int (x3)] s) (F0 m 57 ls []) := by
    intro y1 y2 y3 n
    induction n with
    | zero =>
      intro h y4 w H locs ls hf
      cases hf
    | succ n ih =>
      intro h y4 w H locs ls hf hw hl  kk1 kk2
      unfold zf_X1_match_L57 at hf
      refine lv_iload hx hb zd_X1_match_57 (lv_at hl 4 rfl) ?_
      refine lv_bipush (v := 24) hx hb zd_X1_match_59 (by decide) ?_
      refine lv_icmp_ge (tgt := 83) hx hb zd_X1_match_61 (by decide) (fun c14 => ?_) (fun c14 => ?_)
      · replace hf := zo_t c14 hf
        have hres := Option.some.inj hf; subst hres
        exact kk1 _ _ _ _ rfl hw (lv_sub hl [] rfl)
      · replace hf := zo_f c14 hf
        refine zl_aload_n hx hb zd_X1_match_64 rfl (lv_at hl 0 rfl) ?_
        refine zl_aload_n hx hb zd_X1_match_65 rfl (lv_at hl 1 rfl) ?_
        refine zl_aload_n hx hb zd_X1_match_66 rfl (lv_at hl 2 rfl) ?_
        refine lv_iload_n hx hb zd_X1_match_67 rfl (lv_at hl 3 rfl) ?_
        replace hf := zo_b hf; obtain ⟨r15, er15, hf⟩ := hf
        refine zw_callV (n := 3) (ci := 1) (q := zc_cl[1]) (As := [va_rf (y1), va_rf (y2), .int (y3)]) (rest := []) S hK hw (zt_X1_moveLongest l g h q y1 y2 y3 _ er15) zm_638 zm_640 zm_11 zq_X1_moveLongest zm_74 (by decide +kernel) ⟨Nat.le_of_ble_eq_true rfl, Nat.le_of_ble_eq_true rfl⟩ rfl rfl rfl (zi_X1_moveLongest er15) hl.1 rfl (by simp [zv_cat, zv_ci, zv_cj]) zd_X1_match_68 ⟨(Nat.le_refl 0), (Nat.le_refl 0)⟩ (fun H locs hw => ?_)
        replace hw : zc_W g r15.1 H locs := hw
        refine lv_if_ne (tgt := 77) hx hb zd_X1_match_71 (by decide) (fun c16 => ?_) (fun c16 => ?_)
        · replace hf := zo_f c16 hf
          refine lv_iinc (i := 4) (v := (y4 + 1)) (lv' := [(4, .int ((y4 + 1))), (0, va_rf ((some q))), (1, va_rf (y1)), (2, va_rf (y2)), (3, .int (y3))]) hx hb zd_X1_match_77 hl (k := 4) rfl (congrArg (_ + ·) (by decide)) (by decide) rfl (fun ls hl => ?_)
          refine lv_goto (tgt := 57) hx hb zd_X1_match_80 (by decide) ?_
          exact ih r15.1 (y4 + 1) _ _ _ _ hf hw (lv_sub hl [1, 2, 3, 4, 0] rfl) kk1 kk2
        · replace hf := zo_t c16 hf
          have hres := Option.some.inj hf; subst hres
          exact kk2 _ _ _ _ rfl hw (lv_sub hl [] rfl)
  unfold zf_X1_match at hf
  obtain ⟨-, hf⟩ := zo_n hf
  refine zl_aload_n hx hb zd_X1_match_0 rfl (lv_at hl 0 rfl) ?_
  replace hf := zo_b hf; obtain ⟨v1, ev1, hf⟩ := hf
  obtain ⟨u2, u2e, u2v⟩ := zo_b ev1
  obtain rfl := zv_r_e u2v
  refine zw_get S hK hw zk_1 (k := 1) (by decide) rfl zm_184 (Or.inl rfl) u2e zd_X1_match_1 ?_
  refine lv_iconst (v := (-1)) hx hb zd_X1_match_4 (by decide) ?_
  replace hf := zo_b hf; obtain ⟨r3, er3, hf⟩ := hf
  refine zw_callS (n := 2) (As := [va_rf (v1), .int ((-1))]) (rest := []) S hK hw (zt_J7_fill_53178 l g h v1 (-1) _ er3) zm_610 zm_611 zq_J7_fill_53178 zm_80 (by decide +kernel) ⟨Nat.le_of_ble_eq_true rfl, Nat.le_of_ble_eq_true rfl⟩ rfl hl.1 rfl (by simp [zv_cat, zv_ci, zv_cj]) zd_X1_match_5 ⟨(Nat.le_refl 0), (Nat.le_refl 0)⟩ (fun H locs hw => ?_)
  replace hw : zc_W g r3 H locs := hw
  refine lv_iconst (v := 0) hx hb zd_X1_match_8 (by decide) ?_
  refine lv_istore (i := 4) (lv' := [(4, .int (0)), (0, va_rf ((some q))), (1, va_rf (x1)), (2, va_rf (x2)), (3, .int (x3))]) hx hb zd_X1_match_9 hl (by decide) rfl (fun ls hl => ?_)
  replace hf := zo_b hf; obtain ⟨w9, w9e, hf⟩ := hf
  refine L11 x1 x2 x3 2000 r3 0 _ _ _ _ w9e hw (lv_sub hl [1, 2, 3, 4, 0] rfl) (fun H locs ls hw hl => ?_)
  refine zl_aload_n hx hb zd_X1_match_32 rfl (lv_at hl 0 rfl) ?_
  refine lv_iconst (v := 0) hx hb zd_X1_match_33 (by decide) ?_
  replace hf := zo_b hf; obtain ⟨h10, eh10, hf⟩ := hf
  refine zw_put S hK hw zk_1 (k := 3) (by decide) rfl zm_186 (Or.inl rfl) eh10 (ty := .int) (by decide +kernel) rfl rfl zd_X1_match_34 (fun H locs hw => ?_)
  refine zl_aload_n hx hb zd_X1_match_37 rfl (lv_at hl 0 rfl) ?_
  refine lv_iconst (v := 0) hx hb zd_X1_match_38 (by decide) ?_
  replace hf := zo_b hf; obtain ⟨h11, eh11, hf⟩ := hf
  refine zw_put S hK hw zk_1 (k := 4) (by decide) rfl zm_188 (Or.inl rfl) eh11 (ty := .int) (by decide +kernel) rfl rfl zd_X1_match_39 (fun H locs hw => ?_)
  refine zl_aload_n hx hb zd_X1_match_42 rfl (lv_at hl 0 rfl) ?_
  refine zl_aload_n hx hb zd_X1_match_43 rfl (lv_at hl 1 rfl) ?_
  refine zl_aload_n hx hb zd_X1_match_44 rfl (lv_at hl 2 rfl) ?_
  replace hf := zo_b hf; obtain ⟨r12, er12, hf⟩ := hf
  refine zw_callV (n := 2) (ci := 1) (q := zc_cl[1]) (As := [va_rf (x1), va_rf (x2)]) (rest := []) S hK hw (zt_X1_countCommon l g h11 q x1 x2 _ er12) zm_613 zm_615 zm_7 zq_X1_countCommon zm_74 (by decide +kernel) ⟨Nat.le_of_ble_eq_true rfl, Nat.le_of_ble_eq_true rfl⟩ rfl rfl rfl (zi_X1_countCommon er12) hl.1 rfl (by simp [zv_cat, zv_ci, zv_cj]) zd_X1_match_45 ⟨(Nat.le_refl 0), (Nat.le_refl 0)⟩ (fun H locs hw => ?_)
  replace hw : zc_W g r12 H locs := hw
  refine zl_aload_n hx hb zd_X1_match_48 rfl (lv_at hl 0 rfl) ?_
  refine zl_aload_n hx hb zd_X1_match_49 rfl (lv_at hl 1 rfl) ?_
  refine zl_aload_n hx hb zd_X1_match_50 rfl (lv_at hl 2 rfl) ?_
  replace hf := zo_b hf; obtain ⟨r13, er13, hf⟩ := hf
  refine zw_callV (n := 2) (ci := 1) (q := zc_cl[1]) (As := [va_rf (x1), va_rf (x2)]) (rest := []) S hK hw (zt_X1_pairUp l g r12 q x1 x2 _ er13) zm_626 zm_628 zm_8 zq_X1_pairUp zm_74 (by decide +kernel) ⟨Nat.le_of_ble_eq_true rfl, Nat.le_of_ble_eq_true rfl⟩ rfl rfl rfl (zi_X1_pairUp er13) hl.1 rfl (by simp [zv_cat, zv_ci, zv_cj]) zd_X1_match_51 ⟨(Nat.le_refl 0), (Nat.le_refl 0)⟩ (fun H locs hw => ?_)
  replace hw : zc_W g r13 H locs := hw
  refine lv_iconst (v := 0) hx hb zd_X1_match_54 (by decide) ?_
  refine lv_istore (i := 4) (lv' := [(4, .int (0)), (0, va_rf ((some q))), (1, va_rf (x1)), (2, va_rf (x2)), (3, .int (x3))]) hx hb zd_X1_match_55 hl (by decide) rfl (fun ls hl => ?_)
  replace hf := zo_b hf; obtain ⟨w17, w17e, hf⟩ := hf
  refine L57 x1 x2 x3 2000 r13 0 _ _ _ _ w17e hw (lv_sub hl [1, 2, 3, 4, 0] rfl) ?_ ?_
  · intro t18 H locs ls exw17 hw hl
    rw [exw17] at hf
    simp only [Sum.elim_inl, Sum.elim_inr] at hf
    have hres := Option.some.inj hf; subst hres
    exact zw_vret hx hb hr hlk hw zd_X1_match_83 (Nat.le_refl 0) (Nat.le_refl 0)
  · intro t19 H locs ls exw17 hw hl
    rw [exw17] at hf
    simp only [Sum.elim_inl, Sum.elim_inr] at hf
    refine lv_goto (tgt := 83) hx hb zd_X1_match_74 (by decide) ?_
    have hres := Option.some.inj hf; subst hres
    exact zw_vret hx hb hr hlk hw zd_X1_match_83 (Nat.le_refl 0) (Nat.le_refl 0)
def zf_X2_init (h : zc_H) (q : Nat) : Option (zc_H) :=
  if ¬ zf_is h q 2 = true then none else
  (some (zf_new h (.inl (0, 20, .inl (fun _ => 0))))).bind fun h1 =>
  (zf_p h1 q 2 0 (va_rf ((some h.2.1)))).bind fun h2 =>
  some h2
abbrev zr_X2_init : Room := { frames := 1, cells := 1, slots := 20, locals := 40 }
theorem zi_X2_init {h : zc_H} {q : Nat} {res : zc_H} (hf : zf_X2_init h q = some res) : zf_is h q 2 = true := Decidable.not_not.mp (zo_n hf).1
set_option maxHeartbeats 4000000 in
set_option maxRecDepth 20000 in
theorem zt_X2_init (l : Launch) (g : zc_G) (h : zc_H) (q : Nat) (res : zc_H) (hf : zf_X2_init h q = some res) : zc_M l g yX2_init cX2_init 1 none zr_X2_init h [va_rf ((some q))] res none := by
  refine zc_M.of (by decide) (by simp [lg_sl, zv_cat, zv_ci, zv_cj]) ?_
  intro p e s m below meth c ls S hK hw hr hlk hnm hl
  replace S : CallFix p m c cX2_init 1 s [va_rf ((some q))].toArray (zc_ws yX2_init cX2_init 1 none) RX2 := S
  have hx := S.1
  have hb := S.2.1
  replace hl : lv_has ls 1 [(0, va_rf ((some q)))] := by simpa [lv_args, zv_cat, zv_ci, zv_cj] using hl
  generalize s.heap = H at hw ⊢
  obtain ⟨locs, hlocs⟩ : ∃ L : List Loc, L = [] := ⟨_, rfl⟩
  rw [← hlocs] at hw ⊢
  unfold zf_X2_init at hf
  obtain ⟨-, hf⟩ := zo_n hf
  refine zl_aload_n hx hb zd_X2_init_0 rfl (lv_at hl 0 rfl) ?_
  refine W.objInit hx hb S.2.2.2.1 (S.2.2.2.2 _ (List.mem_cons_of_mem _ zm_271)) (S.2.2.2.2 _ (List.mem_cons_of_mem _ zm_95)) (S.2.2.2.2 _ (List.mem_cons_of_mem _ zm_96)) rfl (by rw [S.2.2.1]; exact hl.1) rfl zd_X2_init_1 (Nat.le_of_ble_eq_true rfl) (by simp [F0, JFrame.monitorRoom, zv_cat, zv_ci, zv_cj, zr_X2_init]) ?_
  refine W.eq (g2 := F0 m 4 ls []) rfl ?_
  refine zl_aload_n hx hb zd_X2_init_4 rfl (lv_at hl 0 rfl) ?_
  refine lv_bipush (v := 20) hx hb zd_X2_init_5 (by decide) ?_
  replace hf := zo_b hf; obtain ⟨h1, eh1, hf⟩ := hf
  refine zw_newa (atype := .int) (t := 0) (a0 := (20, .inl (fun _ => 0))) (ty := .int) (N := 20) (K := 20) S hK hw zm_175 rfl rfl (Nat.le_of_ble_eq_true rfl) (fun h => h) (fun _ => rfl) (by decide) (by decide) (Nat.le_refl _) (by decide) (by show _ ≤ (1 : Nat); omega) (by show _ ≤ (20 : Nat); omega) zd_X2_init_7 (fun H hw => ?_)
  replace hw : zc_W g h1 H locs := (Option.some.inj eh1) ▸ hw
  replace hf := zo_b hf; obtain ⟨h2, eh2, hf⟩ := hf
  refine zw_putF S hK hw zk_2 (k := 0) (by decide) rfl zm_272 hnm eh2 (ty := (.array .int)) (by decide +kernel) (zv_rnA _ _) (zv_rfA _ _) zd_X2_init_9 (fun H locs hw => ?_)
  have hres := Option.some.inj hf; subst hres
  exact zw_vret hx hb hr hlk hw zd_X2_init_12 (by show _ ≤ (1 : Nat); omega) (by show _ ≤ (20 : Nat); omega)
def zf_X2_forget (h : zc_H) (q : Nat) : Option (zc_H) :=
  if ¬ zf_is h q 2 = true then none else
  (zf_p h q 2 1 (.int (0))).bind fun h1 =>
  some h1
abbrev zr_X2_forget : Room := { frames := 0, cells := 0, slots := 0, locals := 0 }
theorem zi_X2_forget {h : zc_H} {q : Nat} {res : zc_H} (hf : zf_X2_forget h q = some res) : zf_is h q 2 = true := Decidable.not_not.mp (zo_n hf).1
set_option maxHeartbeats 4000000 in
set_option maxRecDepth 20000 in
theorem zt_X2_forget (l : Launch) (g : zc_G) (h : zc_H) (q : Nat) (res : zc_H) (hf : zf_X2_forget h q = some res) : zc_M l g yX2_forget cX2_forget 1 none zr_X2_forget h [va_rf ((some q))] res none := by
  refine zc_M.of (by decide) (by simp [lg_sl, zv_cat, zv_ci, zv_cj]) ?_
  intro p e s m below meth c ls S hK hw hr hlk hnm hl
  replace S : CallFix p m c cX2_forget 1 s [va_rf ((some q))].toArray (zc_ws yX2_forget cX2_forget 1 none) RX2 := S
  have hx := S.1
  have hb := S.2.1
  replace hl : lv_has ls 1 [(0, va_rf ((some q)))] := by simpa [lv_args, zv_cat, zv_ci, zv_cj] using hl
  generalize s.heap = H at hw ⊢
  obtain ⟨locs, hlocs⟩ : ∃ L : List Loc, L = [] := ⟨_, rfl⟩
  rw [← hlocs] at hw ⊢
  unfold zf_X2_forget at hf
  obtain ⟨-, hf⟩ := zo_n hf
  refine zl_aload_n hx hb zd_X2_forget_0 rfl (lv_at hl 0 rfl) ?_
  refine lv_iconst (v := 0) hx hb zd_X2_forget_1 (by decide) ?_
  replace hf := zo_b hf; obtain ⟨h1, eh1, hf⟩ := hf
  refine zw_put S hK hw zk_2 (k := 1) (by decide) rfl zm_273 (Or.inl rfl) eh1 (ty := .int) (by decide +kernel) rfl rfl zd_X2_forget_2 (fun H locs hw => ?_)
  have hres := Option.some.inj hf; subst hres
  exact zw_vret hx hb hr hlk hw zd_X2_forget_5 (Nat.le_refl 0) (Nat.le_refl 0)
def zf_X2_bodyAt (h : zc_H) (q : Nat) (x1 : Int32) : Option (Int32) :=
  if ¬ zf_is h q 2 = true then none else
  if x1 < 0 then
    some (-1)
  else
  (zf_gi h q 2 1).bind fun v2 =>
  if v2 ≤ x1 then
    some (-1)
  else
  (zf_gr h q 2 0).bind fun v5 =>
  v5.bind fun a7 =>
  (zf_len h a7).bind fun v8 =>
  if v8 ≤ x1 then
    some (-1)
  else
  (zf_gr h q 2 0).bind fun v10 =>
  v10.bind fun a12 =>
  (zf_ai h a12 0 x1).bind fun v13 =>
  some v13
abbrev zr_X2_bodyAt : Room := { frames := 0, cells := 0, slots := 0, locals := 0 }
theorem zi_X2_bodyAt {h : zc_H} {q : Nat} {x1 : Int32} {res : Int32} (hf : zf_X2_bodyAt h q x1 = some res) : zf_is h q 2 = true := Decidable.not_not.mp (zo_n hf).1
set_option maxHeartbeats 4000000 in
set_option maxRecDepth 20000 in
theorem zt_X2_bodyAt (l : Launch) (g : zc_G) (h : zc_H) (q : Nat) (x1 : Int32) (res : Int32) (hf : zf_X2_bodyAt h q x1 = some res) : zc_M l g yX2_bodyAt cX2_bodyAt 2 (some .int) zr_X2_bodyAt h [va_rf ((some q)), .int (x1)] h (some (.int (res))) := by
  refine zc_M.of (by decide) (by simp [lg_sl, zv_cat, zv_ci, zv_cj]) ?_
  intro p e s m below meth c ls S hK hw hr hlk hnm hl
  replace S : CallFix p m c cX2_bodyAt 2 s [va_rf ((some q)), .int (x1)].toArray (zc_ws yX2_bodyAt cX2_bodyAt 2 (some .int)) RX2 := S
  have hx := S.1
  have hb := S.2.1
  replace hl : lv_has ls 2 [(0, va_rf ((some q))), (1, .int (x1))] := by simpa [lv_args, zv_cat, zv_ci, zv_cj] using hl
  generalize s.heap = H at hw ⊢
  obtain ⟨locs, hlocs⟩ : ∃ L : List Loc, L = [] := ⟨_, rfl⟩
  rw [← hlocs] at hw ⊢
  unfold zf_X2_bodyAt at hf
  obtain ⟨-, hf⟩ := zo_n hf
  refine lv_iload_n hx hb zd_X2_bodyAt_0 rfl (lv_at hl 1 rfl) ?_
  refine lv_if_lt (tgt := 30) hx hb zd_X2_bodyAt_1 (by decide) (fun c1 => ?_) (fun c1 => ?_)
  · replace hf := zo_t c1 hf
    refine lv_iconst (v := (-1)) hx hb zd_X2_bodyAt_30 (by decide) ?_
    have hres := Option.some.inj hf; subst hres
    exact zw_iret (v := (-1)) (ty := .int) hx hb hr hlk rfl hw zd_X2_bodyAt_31 (Nat.le_refl 0) (Nat.le_refl 0)
  · replace hf := zo_f c1 hf
    refine lv_iload_n hx hb zd_X2_bodyAt_4 rfl (lv_at hl 1 rfl) ?_
    refine zl_aload_n hx hb zd_X2_bodyAt_5 rfl (lv_at hl 0 rfl) ?_
    replace hf := zo_b hf; obtain ⟨v2, ev2, hf⟩ := hf
    obtain ⟨u3, u3e, u3v⟩ := zo_b ev2
    obtain rfl := zv_i_e u3v
    refine zw_get S hK hw zk_2 (k := 1) (by decide) rfl zm_273 (Or.inl rfl) u3e zd_X2_bodyAt_6 ?_
    refine lv_icmp_ge (tgt := 30) hx hb zd_X2_bodyAt_9 (by decide) (fun c4 => ?_) (fun c4 => ?_)
    · replace hf := zo_t c4 hf
      refine lv_iconst (v := (-1)) hx hb zd_X2_bodyAt_30 (by decide) ?_
      have hres := Option.some.inj hf; subst hres
      exact zw_iret (v := (-1)) (ty := .int) hx hb hr hlk rfl hw zd_X2_bodyAt_31 (Nat.le_refl 0) (Nat.le_refl 0)
    · replace hf := zo_f c4 hf
      refine lv_iload_n hx hb zd_X2_bodyAt_12 rfl (lv_at hl 1 rfl) ?_
      refine zl_aload_n hx hb zd_X2_bodyAt_13 rfl (lv_at hl 0 rfl) ?_
      replace hf := zo_b hf; obtain ⟨v5, ev5, hf⟩ := hf
      obtain ⟨u6, u6e, u6v⟩ := zo_b ev5
      obtain rfl := zv_r_e u6v
      refine zw_get S hK hw zk_2 (k := 0) (by decide) rfl zm_272 (Or.inl rfl) u6e zd_X2_bodyAt_14 ?_
      replace hf := zo_b hf; obtain ⟨a7, na7, hf⟩ := hf
      refine W.eq (g2 := F0 m 17 ls [va_rf ((some a7)), .int (x1)]) (by rw [na7] <;> rfl) ?_
      replace hf := zo_b hf; obtain ⟨v8, ev8, hf⟩ := hf
      refine zw_alen S hK hw ev8 zd_X2_bodyAt_17 ?_
      refine lv_icmp_ge (tgt := 30) hx hb zd_X2_bodyAt_18 (by decide) (fun c9 => ?_) (fun c9 => ?_)
      · replace hf := zo_t c9 hf
        refine lv_iconst (v := (-1)) hx hb zd_X2_bodyAt_30 (by decide) ?_
        have hres := Option.some.inj hf; subst hres
        exact zw_iret (v := (-1)) (ty := .int) hx hb hr hlk rfl hw zd_X2_bodyAt_31 (Nat.le_refl 0) (Nat.le_refl 0)
      · replace hf := zo_f c9 hf
        refine zl_aload_n hx hb zd_X2_bodyAt_21 rfl (lv_at hl 0 rfl) ?_
        replace hf := zo_b hf; obtain ⟨v10, ev10, hf⟩ := hf
        obtain ⟨u11, u11e, u11v⟩ := zo_b ev10
        obtain rfl := zv_r_e u11v
        refine zw_get S hK hw zk_2 (k := 0) (by decide) rfl zm_272 (Or.inl rfl) u11e zd_X2_bodyAt_22 ?_
        refine lv_iload_n hx hb zd_X2_bodyAt_25 rfl (lv_at hl 1 rfl) ?_
        replace hf := zo_b hf; obtain ⟨a12, na12, hf⟩ := hf
        refine W.eq (g2 := F0 m 26 ls [.int (x1), va_rf ((some a12))]) (by rw [na12] <;> rfl) ?_
        replace hf := zo_b hf; obtain ⟨v13, ev13, hf⟩ := hf
        refine zw_iald S hK hw ev13 zd_X2_bodyAt_26 ?_
        refine lv_goto (tgt := 31) hx hb zd_X2_bodyAt_27 (by decide) ?_
        have hres := Option.some.inj hf; subst hres
        exact zw_iret (v := v13) (ty := .int) hx hb hr hlk rfl hw zd_X2_bodyAt_31 (Nat.le_refl 0) (Nat.le_refl 0)
