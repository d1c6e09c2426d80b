def zf_X10_init_L209 (q : Nat) : Nat → zc_H → Int32 → Option (zc_H)
  | 0, _, _ => none
  | n + 1, h, y1 =>
    if 8 ≤ y1 then
      some h
    else
    (zf_gr h q 10 9).bind fun v58 =>
    v58.bind fun a60 =>
    (zf_si h a60 0 y1 (-1)).bind fun h61 =>
    zf_X10_init_L209 q n h61 (y1 + 1)
def zf_X10_init (h : zc_H) (q : Nat) : Option (zc_H) :=
  if ¬ zf_is h q 10 = true then none else
  (some (zf_new h (.inl (0, 16, .inl (fun _ => 0))))).bind fun h1 =>
  (zf_p h1 q 10 1 (va_rf ((some h.2.1)))).bind fun h2 =>
  (some (zf_new h2 (.inl (0, 17, .inl (fun _ => 0))))).bind fun h3 =>
  (zf_p h3 q 10 2 (va_rf ((some h2.2.1)))).bind fun h4 =>
  (some (zf_new h4 (.inl (1, 408, .inr (.inl (fun _ => 0)))))).bind fun h5 =>
  (zf_p h5 q 10 3 (va_rf ((some h4.2.1)))).bind fun h6 =>
  (some (zf_new h6 (.inl (0, 384, .inl (fun _ => 0))))).bind fun h7 =>
  (zf_p h7 q 10 4 (va_rf ((some h6.2.1)))).bind fun h8 =>
  (some (zf_new h8 (.inl (0, 112, .inl (fun _ => 0))))).bind fun h9 =>
  (zf_p h9 q 10 6 (va_rf ((some h8.2.1)))).bind fun h10 =>
  (some (zf_new h10 (.inl (0, 3, .inl (fun _ => 0))))).bind fun h11 =>
  (zf_p h11 q 10 7 (va_rf ((some h10.2.1)))).bind fun h12 =>
  (some (zf_new h12 (.inl (0, 8, .inl (fun _ => 0))))).bind fun h13 =>
  (zf_p h13 q 10 9 (va_rf ((some h12.2.1)))).bind fun h14 =>
  (some (zf_new h14 (.inl (0, 8, .inl (fun _ => 0))))).bind fun h15 =>
  (zf_p h15 q 10 10 (va_rf ((some h14.2.1)))).bind fun h16 =>
  (some (zf_new h16 (.inl (1, 1280, .inr (.inl (fun _ => 0)))))).bind fun h17 =>
  (zf_p h17 q 10 11 (va_rf ((some h16.2.1)))).bind fun h18 =>
  (some (zf_new h18 (.inl (0, 20, .inl (fun _ => 0))))).bind fun h19 =>
  (zf_p h19 q 10 14 (va_rf ((some h18.2.1)))).bind fun h20 =>
  (some (zf_new h20 (.inl (0, 8, .inl (fun _ => 0))))).bind fun h21 =>
  (zf_p h21 q 10 15 (va_rf ((some h20.2.1)))).bind fun h22 =>
  (some (zf_new h22 (.inl (0, 16, .inl (fun _ => 0))))).bind fun h23 =>
  (zf_p h23 q 10 18 (va_rf ((some h22.2.1)))).bind fun h24 =>
  (some (zf_new h24 (.inl (0, 16, .inl (fun _ => 0))))).bind fun h25 =>
  (zf_p h25 q 10 19 (va_rf ((some h24.2.1)))).bind fun h26 =>
  (some (zf_new h26 (.inl (1, 384, .inr (.inl (fun _ => 0)))))).bind fun h27 =>
  (zf_p h27 q 10 20 (va_rf ((some h26.2.1)))).bind fun h28 =>
  (some (zf_new h28 (.inl (0, 112, .inl (fun _ => 0))))).bind fun h29 =>
  (zf_p h29 q 10 22 (va_rf ((some h28.2.1)))).bind fun h30 =>
  (some (zf_new h30 (.inl (0, 3, .inl (fun _ => 0))))).bind fun h31 =>
  (zf_p h31 q 10 23 (va_rf ((some h30.2.1)))).bind fun h32 =>
  (some (zf_new h32 (.inl (0, 625, .inl (fun _ => 0))))).bind fun h33 =>
  (zf_p h33 q 10 25 (va_rf ((some h32.2.1)))).bind fun h34 =>
  (some (zf_new h34 (.inl (0, 24, .inl (fun _ => 0))))).bind fun h35 =>
  (zf_p h35 q 10 26 (va_rf ((some h34.2.1)))).bind fun h36 =>
  (some (zf_new h36 (.inl (2, 24, .inl (fun _ => 0))))).bind fun h37 =>
  (zf_p h37 q 10 27 (va_rf ((some h36.2.1)))).bind fun h38 =>
  (some (zf_new h38 (.inl (0, 16, .inl (fun _ => 0))))).bind fun h39 =>
  (zf_p h39 q 10 30 (va_rf ((some h38.2.1)))).bind fun h40 =>
  (some (zf_new h40 (.inl (0, 16, .inl (fun _ => 0))))).bind fun h41 =>
  (zf_p h41 q 10 37 (va_rf ((some h40.2.1)))).bind fun h42 =>
  (zf_gr h42 q 10 7).bind fun v43 =>
  v43.bind fun a45 =>
  (zf_si h42 a45 0 0 2).bind fun h46 =>
  (zf_gr h46 q 10 7).bind fun v47 =>
  v47.bind fun a49 =>
  (zf_si h46 a49 0 1 6).bind fun h50 =>
  (zf_gr h50 q 10 7).bind fun v51 =>
  v51.bind fun a53 =>
  (zf_si h50 a53 0 2 1).bind fun h54 =>
  (zf_p h54 q 10 8 (.int (1))).bind fun h55 =>
  (zf_p h55 q 10 12 (.int ((-1)))).bind fun h56 =>
  (zf_X10_init_L209 q 17 h56 0).bind fun w62 =>
  some w62
abbrev zr_X10_init : Room := { frames := 1, cells := 21, slots := 3500, locals := 40 }
theorem zi_X10_init {h : zc_H} {q : Nat} {res : zc_H} (hf : zf_X10_init h q = some res) : zf_is h q 10 = true := Decidable.not_not.mp (zo_n hf).1
set_option maxHeartbeats 4000000 in
set_option maxRecDepth 20000 in
theorem zt_X10_init (l : Launch) (g : zc_G) (h : zc_H) (q : Nat) (res : zc_H) (hf : zf_X10_init h q = some res) : zc_M l g yX10_init cX10_init 2 none zr_X10_init h [va_rf ((some q))] res none := by
  refine zc_M.of (by decide) (by simp [lg_sl, zv_cat, zv_ci, zv_cj]) ?_
  intro p e s m below meth c ls S hK hw hr hlk hnm hl
  replace S : CallFix p m c cX10_init 2 s [va_rf ((some q))].toArray (zc_ws yX10_init cX10_init 2 none) RX10 := S
  have hx := S.1
  have hb := S.2.1
  replace hl : lv_has ls 2 [(0, va_rf ((some q)))] := by simpa [lv_args, zv_cat, zv_ci, zv_cj] using hl
  generalize s.heap = H at hw ⊢
  obtain ⟨locs, hlocs⟩ : ∃ L : List Loc, L = [] := ⟨_, rfl⟩
  rw [← hlocs] at hw ⊢
  have L209 : ∀  (n : Nat) (h : zc_H) (y1 : Int32) (w : zc_H) (H : Heap) (locs : List Loc) (ls : Array Slot) (cl sl : Nat), cl + n * 0 ≤ 21 → sl + n * 0 ≤ 3500 → zf_X10_init_L209 q n h y1 = some w → zc_W g h H locs → lv_has ls 2 [(0, va_rf ((some q))), (1, .int (y1))] → (∀ (H : Heap) (locs : List Loc) (ls : Array Slot) (cl1 sl1 : Nat), cl1 ≤ cl + n * 0 → sl1 ≤ sl + n * 0 → zc_W g w H locs → lv_has ls 2 [] → W p l e zr_X10_init s m [va_rf ((some q))].toArray below meth c H locs cl1 sl1 (zc_Q g below zr_X10_init none res [va_rf ((some q))] s) (F0 m 228 ls [])) → W p l e zr_X10_init s m [va_rf ((some q))].toArray below meth c H locs cl sl (zc_Q g below zr_X10_init none res [va_rf ((some q))] s) (F0 m 209 ls []) := by
    intro n
    induction n with
    | zero =>
      intro h y1 w H locs ls cl sl hcl hsl hf
      cases hf
    | succ n ih =>
      intro h y1 w H locs ls cl sl hcl hsl hf hw hl  kk
      unfold zf_X10_init_L209 at hf
      refine lv_iload_n hx hb zd_X10_init_209 rfl (lv_at hl 1 rfl) ?_
      refine lv_bipush (v := 8) hx hb zd_X10_init_210 (by decide) ?_
      refine lv_icmp_ge (tgt := 228) hx hb zd_X10_init_212 (by decide) (fun c57 => ?_) (fun c57 => ?_)
      · replace hf := zo_t c57 hf
        have hres := Option.some.inj hf; subst hres
        exact kk _ _ _ _ _ (by omega) (by omega) hw (lv_sub hl [] rfl)
      · replace hf := zo_f c57 hf
        refine zl_aload_n hx hb zd_X10_init_215 rfl (lv_at hl 0 rfl) ?_
        replace hf := zo_b hf; obtain ⟨v58, ev58, hf⟩ := hf
        obtain ⟨u59, u59e, u59v⟩ := zo_b ev58
        obtain rfl := zv_r_e u59v
        refine zw_get S hK hw zk_10 (k := 9) (by decide) rfl zm_1097 (Or.inl rfl) u59e zd_X10_init_216 ?_
        refine lv_iload_n hx hb zd_X10_init_219 rfl (lv_at hl 1 rfl) ?_
        refine lv_iconst (v := (-1)) hx hb zd_X10_init_220 (by decide) ?_
        replace hf := zo_b hf; obtain ⟨a60, na60, hf⟩ := hf
        refine W.eq (g2 := F0 m 221 ls [.int ((-1)), .int (y1), va_rf ((some a60))]) (by rw [na60] <;> rfl) ?_
        replace hf := zo_b hf; obtain ⟨h61, eh61, hf⟩ := hf
        refine zw_iast S hK hw eh61 zd_X10_init_221 (fun H locs hw => ?_)
        refine lv_iinc (i := 1) (v := (y1 + 1)) (lv' := [(1, .int ((y1 + 1))), (0, va_rf ((some q)))]) hx hb zd_X10_init_222 hl (k := 1) rfl (congrArg (_ + ·) (by decide)) (by decide) rfl (fun ls hl => ?_)
        refine lv_goto (tgt := 209) hx hb zd_X10_init_225 (by decide) ?_
        exact ih h61 (y1 + 1) _ _ _ _ _ _ (by omega) (by omega) hf hw (lv_sub hl [1, 0] rfl) (fun H locs ls cl1 sl1 h1 h2 => kk H locs ls cl1 sl1 (by omega) (by omega))
  unfold zf_X10_init at hf
  obtain ⟨-, hf⟩ := zo_n hf
  refine zl_aload_n hx hb zd_X10_init_0 rfl (lv_at hl 0 rfl) ?_
  refine W.objInit hx hb S.2.2.2.1 (S.2.2.2.2 _ (List.mem_cons_of_mem _ zm_1087)) (S.2.2.2.2 _ (List.mem_cons_of_mem _ zm_95)) (S.2.2.2.2 _ (List.mem_cons_of_mem _ zm_96)) rfl (by rw [S.2.2.1]; exact hl.1) rfl zd_X10_init_1 (Nat.le_of_ble_eq_true rfl) (by simp [F0, JFrame.monitorRoom, zv_cat, zv_ci, zv_cj, zr_X10_init]) ?_
  refine W.eq (g2 := F0 m 4 ls []) rfl ?_
  refine zl_aload_n hx hb zd_X10_init_4 rfl (lv_at hl 0 rfl) ?_
  refine lv_bipush (v := 16) hx hb zd_X10_init_5 (by decide) ?_
  replace hf := zo_b hf; obtain ⟨h1, eh1, hf⟩ := hf
  refine zw_newa (atype := .int) (t := 0) (a0 := (16, .inl (fun _ => 0))) (ty := .int) (N := 16) (K := 16) S hK hw zm_175 rfl rfl (Nat.le_of_ble_eq_true rfl) (fun h => h) (fun _ => rfl) (by decide) (by decide) (Nat.le_refl _) (by decide) (by show _ ≤ (21 : Nat); omega) (by show _ ≤ (3500 : Nat); omega) zd_X10_init_7 (fun H hw => ?_)
  replace hw : zc_W g h1 H locs := (Option.some.inj eh1) ▸ hw
  replace hf := zo_b hf; obtain ⟨h2, eh2, hf⟩ := hf
  refine zw_putF S hK hw zk_10 (k := 1) (by decide) rfl zm_1089 hnm eh2 (ty := (.array .int)) (by decide +kernel) (zv_rnA _ _) (zv_rfA _ _) zd_X10_init_9 (fun H locs hw => ?_)
  refine zl_aload_n hx hb zd_X10_init_12 rfl (lv_at hl 0 rfl) ?_
  refine lv_bipush (v := 17) hx hb zd_X10_init_13 (by decide) ?_
  replace hf := zo_b hf; obtain ⟨h3, eh3, hf⟩ := hf
  refine zw_newa (atype := .int) (t := 0) (a0 := (17, .inl (fun _ => 0))) (ty := .int) (N := 17) (K := 17) S hK hw zm_175 rfl rfl (Nat.le_of_ble_eq_true rfl) (fun h => h) (fun _ => rfl) (by decide) (by decide) (Nat.le_refl _) (by decide) (by show _ ≤ (21 : Nat); omega) (by show _ ≤ (3500 : Nat); omega) zd_X10_init_15 (fun H hw => ?_)
  replace hw : zc_W g h3 H locs := (Option.some.inj eh3) ▸ hw
  replace hf := zo_b hf; obtain ⟨h4, eh4, hf⟩ := hf
  refine zw_putF S hK hw zk_10 (k := 2) (by decide) rfl zm_1090 hnm eh4 (ty := (.array .int)) (by decide +kernel) (zv_rnA _ _) (zv_rfA _ _) zd_X10_init_17 (fun H locs hw => ?_)
  refine zl_aload_n hx hb zd_X10_init_20 rfl (lv_at hl 0 rfl) ?_
  refine lv_sipush (v := 408) hx hb zd_X10_init_21 (by decide) ?_
  replace hf := zo_b hf; obtain ⟨h5, eh5, hf⟩ := hf
  refine zw_newa (atype := .long) (t := 1) (a0 := (408, .inr (.inl (fun _ => 0)))) (ty := .long) (N := 408) (K := 408) S hK hw zm_176 rfl rfl (Nat.le_of_ble_eq_true rfl) (fun h => h) (fun _ => rfl) (by decide) (by decide) (Nat.le_refl _) (by decide) (by show _ ≤ (21 : Nat); omega) (by show _ ≤ (3500 : Nat); omega) zd_X10_init_24 (fun H hw => ?_)
  replace hw : zc_W g h5 H locs := (Option.some.inj eh5) ▸ hw
  replace hf := zo_b hf; obtain ⟨h6, eh6, hf⟩ := hf
  refine zw_putF S hK hw zk_10 (k := 3) (by decide) rfl zm_1091 hnm eh6 (ty := (.array .long)) (by decide +kernel) (zv_rnA _ _) (zv_rfA _ _) zd_X10_init_26 (fun H locs hw => ?_)
  refine zl_aload_n hx hb zd_X10_init_29 rfl (lv_at hl 0 rfl) ?_
  refine lv_sipush (v := 384) hx hb zd_X10_init_30 (by decide) ?_
  replace hf := zo_b hf; obtain ⟨h7, eh7, hf⟩ := hf
  refine zw_newa (atype := .int) (t := 0) (a0 := (384, .inl (fun _ => 0))) (ty := .int) (N := 384) (K := 384) S hK hw zm_175 rfl rfl (Nat.le_of_ble_eq_true rfl) (fun h => h) (fun _ => rfl) (by decide) (by decide) (Nat.le_refl _) (by decide) (by show _ ≤ (21 : Nat); omega) (by show _ ≤ (3500 : Nat); omega) zd_X10_init_33 (fun H hw => ?_)
  replace hw : zc_W g h7 H locs := (Option.some.inj eh7) ▸ hw
  replace hf := zo_b hf; obtain ⟨h8, eh8, hf⟩ := hf
  refine zw_putF S hK hw zk_10 (k := 4) (by decide) rfl zm_1092 hnm eh8 (ty := (.array .int)) (by decide +kernel) (zv_rnA _ _) (zv_rfA _ _) zd_X10_init_35 (fun H locs hw => ?_)
  refine zl_aload_n hx hb zd_X10_init_38 rfl (lv_at hl 0 rfl) ?_
  refine lv_bipush (v := 112) hx hb zd_X10_init_39 (by decide) ?_
  replace hf := zo_b hf; obtain ⟨h9, eh9, hf⟩ := hf
  refine zw_newa (atype := .int) (t := 0) (a0 := (112, .inl (fun _ => 0))) (ty := .int) (N := 112) (K := 112) S hK hw zm_175 rfl rfl (Nat.le_of_ble_eq_true rfl) (fun h => h) (fun _ => rfl) (by decide) (by decide) (Nat.le_refl _) (by decide) (by show _ ≤ (21 : Nat); omega) (by show _ ≤ (3500 : Nat); omega) zd_X10_init_41 (fun H hw => ?_)
  replace hw : zc_W g h9 H locs := (Option.some.inj eh9) ▸ hw
  replace hf := zo_b hf; obtain ⟨h10, eh10, hf⟩ := hf
  refine zw_putF S hK hw zk_10 (k := 6) (by decide) rfl zm_1094 hnm eh10 (ty := (.array .int)) (by decide +kernel) (zv_rnA _ _) (zv_rfA _ _) zd_X10_init_43 (fun H locs hw => ?_)
  refine zl_aload_n hx hb zd_X10_init_46 rfl (lv_at hl 0 rfl) ?_
  refine lv_iconst (v := 3) hx hb zd_X10_init_47 (by decide) ?_
  replace hf := zo_b hf; obtain ⟨h11, eh11, hf⟩ := hf
  refine zw_newa (atype := .int) (t := 0) (a0 := (3, .inl (fun _ => 0))) (ty := .int) (N := 3) (K := 3) S hK hw zm_175 rfl rfl (Nat.le_of_ble_eq_true rfl) (fun h => h) (fun _ => rfl) (by decide) (by decide) (Nat.le_refl _) (by decide) (by show _ ≤ (21 : Nat); omega) (by show _ ≤ (3500 : Nat); omega) zd_X10_init_48 (fun H hw => ?_)
  replace hw : zc_W g h11 H locs := (Option.some.inj eh11) ▸ hw
  replace hf := zo_b hf; obtain ⟨h12, eh12, hf⟩ := hf
  refine zw_putF S hK hw zk_10 (k := 7) (by decide) rfl zm_1095 hnm eh12 (ty := (.array .int)) (by decide +kernel) (zv_rnA _ _) (zv_rfA _ _) zd_X10_init_50 (fun H locs hw => ?_)
  refine zl_aload_n hx hb zd_X10_init_53 rfl (lv_at hl 0 rfl) ?_
  refine lv_bipush (v := 8) hx hb zd_X10_init_54 (by decide) ?_
  replace hf := zo_b hf; obtain ⟨h13, eh13, hf⟩ := hf
  refine zw_newa (atype := .int) (t := 0) (a0 := (8, .inl (fun _ => 0))) (ty := .int) (N := 8) (K := 8) S hK hw zm_175 rfl rfl (Nat.le_of_ble_eq_true rfl) (fun h => h) (fun _ => rfl) (by decide) (by decide) (Nat.le_refl _) (by decide) (by show _ ≤ (21 : Nat); omega) (by show _ ≤ (3500 : Nat); omega) zd_X10_init_56 (fun H hw => ?_)
  replace hw : zc_W g h13 H locs := (Option.some.inj eh13) ▸ hw
  replace hf := zo_b hf; obtain ⟨h14, eh14, hf⟩ := hf
  refine zw_putF S hK hw zk_10 (k := 9) (by decide) rfl zm_1097 hnm eh14 (ty := (.array .int)) (by decide +kernel) (zv_rnA _ _) (zv_rfA _ _) zd_X10_init_58 (fun H locs hw => ?_)
  refine zl_aload_n hx hb zd_X10_init_61 rfl (lv_at hl 0 rfl) ?_
  refine lv_bipush (v := 8) hx hb zd_X10_init_62 (by decide) ?_
  replace hf := zo_b hf; obtain ⟨h15, eh15, hf⟩ := hf
  refine zw_newa (atype := .int) (t := 0) (a0 := (8, .inl (fun _ => 0))) (ty := .int) (N := 8) (K := 8) S hK hw zm_175 rfl rfl (Nat.le_of_ble_eq_true rfl) (fun h => h) (fun _ => rfl) (by decide) (by decide) (Nat.le_refl _) (by decide) (by show _ ≤ (21 : Nat); omega) (by show _ ≤ (3500 : Nat); omega) zd_X10_init_64 (fun H hw => ?_)
  replace hw : zc_W g h15 H locs := (Option.some.inj eh15) ▸ hw
  replace hf := zo_b hf; obtain ⟨h16, eh16, hf⟩ := hf
  refine zw_putF S hK hw zk_10 (k := 10) (by decide) rfl zm_1098 hnm eh16 (ty := (.array .int)) (by decide +kernel) (zv_rnA _ _) (zv_rfA _ _) zd_X10_init_66 (fun H locs hw => ?_)
  refine zl_aload_n hx hb zd_X10_init_69 rfl (lv_at hl 0 rfl) ?_
  refine lv_sipush (v := 1280) hx hb zd_X10_init_70 (by decide) ?_
  replace hf := zo_b hf; obtain ⟨h17, eh17, hf⟩ := hf
  refine zw_newa (atype := .long) (t := 1) (a0 := (1280, .inr (.inl (fun _ => 0)))) (ty := .long) (N := 1280) (K := 1280) S hK hw zm_176 rfl rfl (Nat.le_of_ble_eq_true rfl) (fun h => h) (fun _ => rfl) (by decide) (by decide) (Nat.le_refl _) (by decide) (by show _ ≤ (21 : Nat); omega) (by show _ ≤ (3500 : Nat); omega) zd_X10_init_73 (fun H hw => ?_)
  replace hw : zc_W g h17 H locs := (Option.some.inj eh17) ▸ hw
  replace hf := zo_b hf; obtain ⟨h18, eh18, hf⟩ := hf
  refine zw_putF S hK hw zk_10 (k := 11) (by decide) rfl zm_1099 hnm eh18 (ty := (.array .long)) (by decide +kernel) (zv_rnA _ _) (zv_rfA _ _) zd_X10_init_75 (fun H locs hw => ?_)
  refine zl_aload_n hx hb zd_X10_init_78 rfl (lv_at hl 0 rfl) ?_
  refine lv_bipush (v := 20) hx hb zd_X10_init_79 (by decide) ?_
  replace hf := zo_b hf; obtain ⟨h19, eh19, hf⟩ := hf
  refine zw_newa (atype := .int) (t := 0) (a0 := (20, .inl (fun _ => 0))) (ty := .int) (N := 20) (K := 20) S hK hw zm_175 rfl rfl (Nat.le_of_ble_eq_true rfl) (fun h => h) (fun _ => rfl) (by decide) (by decide) (Nat.le_refl _) (by decide) (by show _ ≤ (21 : Nat); omega) (by show _ ≤ (3500 : Nat); omega) zd_X10_init_81 (fun H hw => ?_)
  replace hw : zc_W g h19 H locs := (Option.some.inj eh19) ▸ hw
  replace hf := zo_b hf; obtain ⟨h20, eh20, hf⟩ := hf
  refine zw_putF S hK hw zk_10 (k := 14) (by decide) rfl zm_1102 hnm eh20 (ty := (.array .int)) (by decide +kernel) (zv_rnA _ _) (zv_rfA _ _) zd_X10_init_83 (fun H locs hw => ?_)
  refine zl_aload_n hx hb zd_X10_init_86 rfl (lv_at hl 0 rfl) ?_
  refine lv_bipush (v := 8) hx hb zd_X10_init_87 (by decide) ?_
  replace hf := zo_b hf; obtain ⟨h21, eh21, hf⟩ := hf
  refine zw_newa (atype := .int) (t := 0) (a0 := (8, .inl (fun _ => 0))) (ty := .int) (N := 8) (K := 8) S hK hw zm_175 rfl rfl (Nat.le_of_ble_eq_true rfl) (fun h => h) (fun _ => rfl) (by decide) (by decide) (Nat.le_refl _) (by decide) (by show _ ≤ (21 : Nat); omega) (by show _ ≤ (3500 : Nat); omega) zd_X10_init_89 (fun H hw => ?_)
  replace hw : zc_W g h21 H locs := (Option.some.inj eh21) ▸ hw
  replace hf := zo_b hf; obtain ⟨h22, eh22, hf⟩ := hf
  refine zw_putF S hK hw zk_10 (k := 15) (by decide) rfl zm_1103 hnm eh22 (ty := (.array .int)) (by decide +kernel) (zv_rnA _ _) (zv_rfA _ _) zd_X10_init_91 (fun H locs hw => ?_)
  refine zl_aload_n hx hb zd_X10_init_94 rfl (lv_at hl 0 rfl) ?_
  refine lv_bipush (v := 16) hx hb zd_X10_init_95 (by decide) ?_
  replace hf := zo_b hf; obtain ⟨h23, eh23, hf⟩ := hf
  refine zw_newa (atype := .int) (t := 0) (a0 := (16, .inl (fun _ => 0))) (ty := .int) (N := 16) (K := 16) S hK hw zm_175 rfl rfl (Nat.le_of_ble_eq_true rfl) (fun h => h) (fun _ => rfl) (by decide) (by decide) (Nat.le_refl _) (by decide) (by show _ ≤ (21 : Nat); omega) (by show _ ≤ (3500 : Nat); omega) zd_X10_init_97 (fun H hw => ?_)
  replace hw : zc_W g h23 H locs := (Option.some.inj eh23) ▸ hw
  replace hf := zo_b hf; obtain ⟨h24, eh24, hf⟩ := hf
  refine zw_putF S hK hw zk_10 (k := 18) (by decide) rfl zm_1106 hnm eh24 (ty := (.array .int)) (by decide +kernel) (zv_rnA _ _) (zv_rfA _ _) zd_X10_init_99 (fun H locs hw => ?_)
  refine zl_aload_n hx hb zd_X10_init_102 rfl (lv_at hl 0 rfl) ?_
  refine lv_bipush (v := 16) hx hb zd_X10_init_103 (by decide) ?_
  replace hf := zo_b hf; obtain ⟨h25, eh25, hf⟩ := hf
  refine zw_newa (atype := .int) (t := 0) (a0 := (16, .inl (fun _ => 0))) (ty := .int) (N := 16) (K := 16) S hK hw zm_175 rfl rfl (Nat.le_of_ble_eq_true rfl) (fun h => h) (fun _ => rfl) (by decide) (by decide) (Nat.le_refl _) (by decide) (by show _ ≤ (21 : Nat); omega) (by show _ ≤ (3500 : Nat); omega) zd_X10_init_105 (fun H hw => ?_)
  replace hw : zc_W g h25 H locs := (Option.some.inj eh25) ▸ hw
  replace hf := zo_b hf; obtain ⟨h26, eh26, hf⟩ := hf
  refine zw_putF S hK hw zk_10 (k := 19) (by decide) rfl zm_1107 hnm eh26 (ty := (.array .int)) (by decide +kernel) (zv_rnA _ _) (zv_rfA _ _) zd_X10_init_107 (fun H locs hw => ?_)
  refine zl_aload_n hx hb zd_X10_init_110 rfl (lv_at hl 0 rfl) ?_
  refine lv_sipush (v := 384) hx hb zd_X10_init_111 (by decide) ?_
  replace hf := zo_b hf; obtain ⟨h27, eh27, hf⟩ := hf
  refine zw_newa (atype := .long) (t := 1) (a0 := (384, .inr (.inl (fun _ => 0)))) (ty := .long) (N := 384) (K := 384) S hK hw zm_176 rfl rfl (Nat.le_of_ble_eq_true rfl) (fun h => h) (fun _ => rfl) (by decide) (by decide) (Nat.le_refl _) (by decide) (by show _ ≤ (21 : Nat); omega) (by show _ ≤ (3500 : Nat); omega) zd_X10_init_114 (fun H hw => ?_)
  replace hw : zc_W g h27 H locs := (Option.some.inj eh27) ▸ hw
  replace hf := zo_b hf; obtain ⟨h28, eh28, hf⟩ := hf
  refine zw_putF S hK hw zk_10 (k := 20) (by decide) rfl zm_1108 hnm eh28 (ty := (.array .long)) (by decide +kernel) (zv_rnA _ _) (zv_rfA _ _) zd_X10_init_116 (fun H locs hw => ?_)
  refine zl_aload_n hx hb zd_X10_init_119 rfl (lv_at hl 0 rfl) ?_
  refine lv_bipush (v := 112) hx hb zd_X10_init_120 (by decide) ?_
  replace hf := zo_b hf; obtain ⟨h29, eh29, hf⟩ := hf
  refine zw_newa (atype := .int) (t := 0) (a0 := (112, .inl (fun _ => 0))) (ty := .int) (N := 112) (K := 112) S hK hw zm_175 rfl rfl (Nat.le_of_ble_eq_true rfl) (fun h => h) (fun _ => rfl) (by decide) (by decide) (Nat.le_refl _) (by decide) (by show _ ≤ (21 : Nat); omega) (by show _ ≤ (3500 : Nat); omega) zd_X10_init_122 (fun H hw => ?_)
  replace hw : zc_W g h29 H locs := (Option.some.inj eh29) ▸ hw
  replace hf := zo_b hf; obtain ⟨h30, eh30, hf⟩ := hf
  refine zw_putF S hK hw zk_10 (k := 22) (by decide) rfl zm_1110 hnm eh30 (ty := (.array .int)) (by decide +kernel) (zv_rnA _ _) (zv_rfA _ _) zd_X10_init_124 (fun H locs hw => ?_)
  refine zl_aload_n hx hb zd_X10_init_127 rfl (lv_at hl 0 rfl) ?_
  refine lv_iconst (v := 3) hx hb zd_X10_init_128 (by decide) ?_
  replace hf := zo_b hf; obtain ⟨h31, eh31, hf⟩ := hf
  refine zw_newa (atype := .int) (t := 0) (a0 := (3, .inl (fun _ => 0))) (ty := .int) (N := 3) (K := 3) S hK hw zm_175 rfl rfl (Nat.le_of_ble_eq_true rfl) (fun h => h) (fun _ => rfl) (by decide) (by decide) (Nat.le_refl _) (by decide) (by show _ ≤ (21 : Nat); omega) (by show _ ≤ (3500 : Nat); omega) zd_X10_init_129 (fun H hw => ?_)
  replace hw : zc_W g h31 H locs := (Option.some.inj eh31) ▸ hw
  replace hf := zo_b hf; obtain ⟨h32, eh32, hf⟩ := hf
  refine zw_putF S hK hw zk_10 (k := 23) (by decide) rfl zm_1111 hnm eh32 (ty := (.array .int)) (by decide +kernel) (zv_rnA _ _) (zv_rfA _ _) zd_X10_init_131 (fun H locs hw => ?_)
  refine zl_aload_n hx hb zd_X10_init_134 rfl (lv_at hl 0 rfl) ?_
  refine lv_sipush (v := 625) hx hb zd_X10_init_135 (by decide) ?_
  replace hf := zo_b hf; obtain ⟨h33, eh33, hf⟩ := hf
  refine zw_newa (atype := .int) (t := 0) (a0 := (625, .inl (fun _ => 0))) (ty := .int) (N := 625) (K := 625) S hK hw zm_175 rfl rfl (Nat.le_of_ble_eq_true rfl) (fun h => h) (fun _ => rfl) (by decide) (by decide) (Nat.le_refl _) (by decide) (by show _ ≤ (21 : Nat); omega) (by show _ ≤ (3500 : Nat); omega) zd_X10_init_138 (fun H hw => ?_)
  replace hw : zc_W g h33 H locs := (Option.some.inj eh33) ▸ hw
  replace hf := zo_b hf; obtain ⟨h34, eh34, hf⟩ := hf
  refine zw_putF S hK hw zk_10 (k := 25) (by decide) rfl zm_1113 hnm eh34 (ty := (.array .int)) (by decide +kernel) (zv_rnA _ _) (zv_rfA _ _) zd_X10_init_140 (fun H locs hw => ?_)
  refine zl_aload_n hx hb zd_X10_init_143 rfl (lv_at hl 0 rfl) ?_
  refine lv_bipush (v := 24) hx hb zd_X10_init_144 (by decide) ?_
  replace hf := zo_b hf; obtain ⟨h35, eh35, hf⟩ := hf
  refine zw_newa (atype := .int) (t := 0) (a0 := (24, .inl (fun _ => 0))) (ty := .int) (N := 24) (K := 24) S hK hw zm_175 rfl rfl (Nat.le_of_ble_eq_true rfl) (fun h => h) (fun _ => rfl) (by decide) (by decide) (Nat.le_refl _) (by decide) (by show _ ≤ (21 : Nat); omega) (by show _ ≤ (3500 : Nat); omega) zd_X10_init_146 (fun H hw => ?_)
  replace hw : zc_W g h35 H locs := (Option.some.inj eh35) ▸ hw
  replace hf := zo_b hf; obtain ⟨h36, eh36, hf⟩ := hf
  refine zw_putF S hK hw zk_10 (k := 26) (by decide) rfl zm_1114 hnm eh36 (ty := (.array .int)) (by decide +kernel) (zv_rnA _ _) (zv_rfA _ _) zd_X10_init_148 (fun H locs hw => ?_)
  refine zl_aload_n hx hb zd_X10_init_151 rfl (lv_at hl 0 rfl) ?_
  refine lv_bipush (v := 24) hx hb zd_X10_init_152 (by decide) ?_
  replace hf := zo_b hf; obtain ⟨h37, eh37, hf⟩ := hf
  refine zw_newa (atype := .boolean) (t := 2) (a0 := (24, .inl (fun _ => 0))) (ty := .boolean) (N := 24) (K := 24) S hK hw zm_201 rfl rfl (Nat.le_of_ble_eq_true rfl) (fun h => h) (fun _ => rfl) (by decide) (by decide) (Nat.le_refl _) (by decide) (by show _ ≤ (21 : Nat); omega) (by show _ ≤ (3500 : Nat); omega) zd_X10_init_154 (fun H hw => ?_)
  replace hw : zc_W g h37 H locs := (Option.some.inj eh37) ▸ hw
  replace hf := zo_b hf; obtain ⟨h38, eh38, hf⟩ := hf
  refine zw_putF S hK hw zk_10 (k := 27) (by decide) rfl zm_1115 hnm eh38 (ty := (.array .boolean)) (by decide +kernel) (zv_rnA _ _) (zv_rfA _ _) zd_X10_init_156 (fun H locs hw => ?_)
  refine zl_aload_n hx hb zd_X10_init_159 rfl (lv_at hl 0 rfl) ?_
  refine lv_bipush (v := 16) hx hb zd_X10_init_160 (by decide) ?_
  replace hf := zo_b hf; obtain ⟨h39, eh39, hf⟩ := hf
  refine zw_newa (atype := .int) (t := 0) (a0 := (16, .inl (fun _ => 0))) (ty := .int) (N := 16) (K := 16) S hK hw zm_175 rfl rfl (Nat.le_of_ble_eq_true rfl) (fun h => h) (fun _ => rfl) (by decide) (by decide) (Nat.le_refl _) (by decide) (by show _ ≤ (21 : Nat); omega) (by show _ ≤ (3500 : Nat); omega) zd_X10_init_162 (fun H hw => ?_)
  replace hw : zc_W g h39 H locs := (Option.some.inj eh39) ▸ hw
  replace hf := zo_b hf; obtain ⟨h40, eh40, hf⟩ := hf
  refine zw_putF S hK hw zk_10 (k := 30) (by decide) rfl zm_1118 hnm eh40 (ty := (.array .int)) (by decide +kernel) (zv_rnA _ _) (zv_rfA _ _) zd_X10_init_164 (fun H locs hw => ?_)
  refine zl_aload_n hx hb zd_X10_init_167 rfl (lv_at hl 0 rfl) ?_
  refine lv_bipush (v := 16) hx hb zd_X10_init_168 (by decide) ?_
  replace hf := zo_b hf; obtain ⟨h41, eh41, hf⟩ := hf
  refine zw_newa (atype := .int) (t := 0) (a0 := (16, .inl (fun _ => 0))) (ty := .int) (N := 16) (K := 16) S hK hw zm_175 rfl rfl (Nat.le_of_ble_eq_true rfl) (fun h => h) (fun _ => rfl) (by decide) (by decide) (Nat.le_refl _) (by decide) (by show _ ≤ (21 : Nat); omega) (by show _ ≤ (3500 : Nat); omega) zd_X10_init_170 (fun H hw => ?_)
  replace hw : zc_W g h41 H locs := (Option.some.inj eh41) ▸ hw
  replace hf := zo_b hf; obtain ⟨h42, eh42, hf⟩ := hf
  refine zw_putF S hK hw zk_10 (k := 37) (by decide) rfl zm_1125 hnm eh42 (ty := (.array .int)) (by decide +kernel) (zv_rnA _ _) (zv_rfA _ _) zd_X10_init_172 (fun H locs hw => ?_)
  refine zl_aload_n hx hb zd_X10_init_175 rfl (lv_at hl 0 rfl) ?_
  replace hf := zo_b hf; obtain ⟨v43, ev43, hf⟩ := hf
  obtain ⟨u44, u44e, u44v⟩ := zo_b ev43
  obtain rfl := zv_r_e u44v
  refine zw_get S hK hw zk_10 (k := 7) (by decide) rfl zm_1095 (Or.inl rfl) u44e zd_X10_init_176 ?_
  refine lv_iconst (v := 0) hx hb zd_X10_init_179 (by decide) ?_
  refine lv_iconst (v := 2) hx hb zd_X10_init_180 (by decide) ?_
  replace hf := zo_b hf; obtain ⟨a45, na45, hf⟩ := hf
  refine W.eq (g2 := F0 m 181 ls [.int (2), .int (0), va_rf ((some a45))]) (by rw [na45] <;> rfl) ?_
  replace hf := zo_b hf; obtain ⟨h46, eh46, hf⟩ := hf
  refine zw_iast S hK hw eh46 zd_X10_init_181 (fun H locs hw => ?_)
  refine zl_aload_n hx hb zd_X10_init_182 rfl (lv_at hl 0 rfl) ?_
  replace hf := zo_b hf; obtain ⟨v47, ev47, hf⟩ := hf
  obtain ⟨u48, u48e, u48v⟩ := zo_b ev47
  obtain rfl := zv_r_e u48v
  refine zw_get S hK hw zk_10 (k := 7) (by decide) rfl zm_1095 (Or.inl rfl) u48e zd_X10_init_183 ?_
  refine lv_iconst (v := 1) hx hb zd_X10_init_186 (by decide) ?_
  refine lv_bipush (v := 6) hx hb zd_X10_init_187 (by decide) ?_
  replace hf := zo_b hf; obtain ⟨a49, na49, hf⟩ := hf
  refine W.eq (g2 := F0 m 189 ls [.int (6), .int (1), va_rf ((some a49))]) (by rw [na49] <;> rfl) ?_
  replace hf := zo_b hf; obtain ⟨h50, eh50, hf⟩ := hf
  refine zw_iast S hK hw eh50 zd_X10_init_189 (fun H locs hw => ?_)
  refine zl_aload_n hx hb zd_X10_init_190 rfl (lv_at hl 0 rfl) ?_
  replace hf := zo_b hf; obtain ⟨v51, ev51, hf⟩ := hf
  obtain ⟨u52, u52e, u52v⟩ := zo_b ev51
  obtain rfl := zv_r_e u52v
  refine zw_get S hK hw zk_10 (k := 7) (by decide) rfl zm_1095 (Or.inl rfl) u52e zd_X10_init_191 ?_
  refine lv_iconst (v := 2) hx hb zd_X10_init_194 (by decide) ?_
  refine lv_iconst (v := 1) hx hb zd_X10_init_195 (by decide) ?_
  replace hf := zo_b hf; obtain ⟨a53, na53, hf⟩ := hf
  refine W.eq (g2 := F0 m 196 ls [.int (1), .int (2), va_rf ((some a53))]) (by rw [na53] <;> rfl) ?_
  replace hf := zo_b hf; obtain ⟨h54, eh54, hf⟩ := hf
  refine zw_iast S hK hw eh54 zd_X10_init_196 (fun H locs hw => ?_)
  refine zl_aload_n hx hb zd_X10_init_197 rfl (lv_at hl 0 rfl) ?_
  refine lv_iconst (v := 1) hx hb zd_X10_init_198 (by decide) ?_
  replace hf := zo_b hf; obtain ⟨h55, eh55, hf⟩ := hf
  refine zw_put S hK hw zk_10 (k := 8) (by decide) rfl zm_1096 (Or.inl rfl) eh55 (ty := .int) (by decide +kernel) rfl rfl zd_X10_init_199 (fun H locs hw => ?_)
  refine zl_aload_n hx hb zd_X10_init_202 rfl (lv_at hl 0 rfl) ?_
  refine lv_iconst (v := (-1)) hx hb zd_X10_init_203 (by decide) ?_
  replace hf := zo_b hf; obtain ⟨h56, eh56, hf⟩ := hf
  refine zw_put S hK hw zk_10 (k := 12) (by decide) rfl zm_1100 (Or.inl rfl) eh56 (ty := .int) (by decide +kernel) rfl rfl zd_X10_init_204 (fun H locs hw => ?_)
  refine lv_iconst (v := 0) hx hb zd_X10_init_207 (by decide) ?_
  refine lv_istore_n (i := 1) (lv' := [(1, .int (0)), (0, va_rf ((some q)))]) hx hb zd_X10_init_208 rfl hl (by decide) rfl (fun ls hl => ?_)
  replace hf := zo_b hf; obtain ⟨w62, w62e, hf⟩ := hf
  refine L209  17 h56 0 _ _ _ _ _ _ (by omega) (by omega) w62e hw (lv_sub hl [1, 0] rfl) (fun H locs ls cl63 sl64 hcl63 hsl64 hw hl => ?_)
  have hres := Option.some.inj hf; subst hres
  exact zw_vret hx hb hr hlk hw zd_X10_init_228 (by show _ ≤ (21 : Nat); omega) (by show _ ≤ (3500 : Nat); omega)
def zf_X10_no (h : zc_H) (q : Nat) (x1 : Int32) : Option (zc_H × Int32) :=
  if ¬ zf_is h q 10 = true then none else
  (zf_gr h q 10 15).bind fun v1 =>
  v1.bind fun a3 =>
  (zf_ai h a3 0 (-x1)).bind fun v4 =>
  (zf_si h a3 0 (-x1) (v4 + 1)).bind fun h5 =>
  some (h5, x1)
abbrev zr_X10_no : Room := { frames := 0, cells := 0, slots := 0, locals := 0 }
theorem zi_X10_no {h : zc_H} {q : Nat} {x1 : Int32} {res : zc_H × Int32} (hf : zf_X10_no h q x1 = some res) : zf_is h q 10 = true := Decidable.not_not.mp (zo_n hf).1
set_option maxHeartbeats 4000000 in
set_option maxRecDepth 20000 in
theorem zt_X10_no (l : Launch) (g : zc_G) (h : zc_H) (q : Nat) (x1 : Int32) (res : zc_H × Int32) (hf : zf_X10_no h q x1 = some res) : zc_M l g yX10_no cX10_no 2 (some .int) zr_X10_no h [va_rf ((some q)), .int (x1)] res.1 (some (.int (res.2))) := by
  refine zc_M.of (by decide) (by simp [lg_sl, zv_cat, zv_ci, zv_cj]) ?_
  intro p e s m below meth c ls S hK hw hr hlk hnm hl
  replace S : CallFix p m c cX10_no 2 s [va_rf ((some q)), .int (x1)].toArray (zc_ws yX10_no cX10_no 2 (some .int)) RX10 := S
  have hx := S.1
  have hb := S.2.1
  replace hl : lv_has ls 2 [(0, va_rf ((some q))), (1, .int (x1))] := by simpa [lv_args, zv_cat, zv_ci, zv_cj] using hl
  generalize s.heap = H at hw ⊢
  obtain ⟨locs, hlocs⟩ : ∃ L : List Loc, L = [] := ⟨_, rfl⟩
  rw [← hlocs] at hw ⊢
  unfold zf_X10_no at hf
  obtain ⟨-, hf⟩ := zo_n hf
  refine zl_aload_n hx hb zd_X10_no_0 rfl (lv_at hl 0 rfl) ?_
  replace hf := zo_b hf; obtain ⟨v1, ev1, hf⟩ := hf
  obtain ⟨u2, u2e, u2v⟩ := zo_b ev1
  obtain rfl := zv_r_e u2v
  refine zw_get S hK hw zk_10 (k := 15) (by decide) rfl zm_1103 (Or.inl rfl) u2e zd_X10_no_1 ?_
  refine lv_iload_n hx hb zd_X10_no_4 rfl (lv_at hl 1 rfl) ?_
  refine lv_ineg hx hb zd_X10_no_5 ?_
  refine lv_dup2_11 hx hb zd_X10_no_6 rfl (zv_cat _) ?_
  replace hf := zo_b hf; obtain ⟨a3, na3, hf⟩ := hf
  refine W.eq (g2 := F0 m 7 ls [.int ((-x1)), va_rf ((some a3)), .int ((-x1)), va_rf (v1)]) (by rw [na3] <;> rfl) ?_
  replace hf := zo_b hf; obtain ⟨v4, ev4, hf⟩ := hf
  refine zw_iald S hK hw ev4 zd_X10_no_7 ?_
  refine lv_iconst (v := 1) hx hb zd_X10_no_8 (by decide) ?_
  refine lv_iadd hx hb zd_X10_no_9 ?_
  refine W.eq (g2 := F0 m 10 ls [.int ((v4 + 1)), .int ((-x1)), va_rf ((some a3))]) (by rw [na3] <;> rfl) ?_
  replace hf := zo_b hf; obtain ⟨h5, eh5, hf⟩ := hf
  refine zw_iast S hK hw eh5 zd_X10_no_10 (fun H locs hw => ?_)
  refine lv_iload_n hx hb zd_X10_no_11 rfl (lv_at hl 1 rfl) ?_
  have hres := Option.some.inj hf; subst hres
  exact zw_iret (v := x1) (ty := .int) hx hb hr hlk rfl hw zd_X10_no_12 (Nat.le_refl 0) (Nat.le_refl 0)
def zf_X10_no10 (h : zc_H) (q : Nat) (x1 : Int32) : Option (zc_H × Int32) :=
  if ¬ zf_is h q 10 = true then none else
  (zf_X10_no h q x1).bind fun r1 =>
  some (r1.1, (r1.2 - 10))
abbrev zr_X10_no10 : Room := { frames := 1, cells := 0, slots := 0, locals := 21 }
theorem zi_X10_no10 {h : zc_H} {q : Nat} {x1 : Int32} {res : zc_H × Int32} (hf : zf_X10_no10 h q x1 = some res) : zf_is h q 10 = true := Decidable.not_not.mp (zo_n hf).1
set_option maxHeartbeats 4000000 in
set_option maxRecDepth 20000 in
theorem zt_X10_no10 (l : Launch) (g : zc_G) (h : zc_H) (q : Nat) (x1 : Int32) (res : zc_H × Int32) (hf : zf_X10_no10 h q x1 = some res) : zc_M l g yX10_no10 cX10_no10 2 (some .int) zr_X10_no10 h [va_rf ((some q)), .int (x1)] res.1 (some (.int (res.2))) := by
  refine zc_M.of (by decide) (by simp [lg_sl, zv_cat, zv_ci, zv_cj]) ?_
  intro p e s m below meth c ls S hK hw hr hlk hnm hl
  replace S : CallFix p m c cX10_no10 2 s [va_rf ((some q)), .int (x1)].toArray (zc_ws yX10_no10 cX10_no10 2 (some .int)) RX10 := S
  have hx := S.1
  have hb := S.2.1
  replace hl : lv_has ls 2 [(0, va_rf ((some q))), (1, .int (x1))] := by simpa [lv_args, zv_cat, zv_ci, zv_cj] using hl
  generalize s.heap = H at hw ⊢
  obtain ⟨locs, hlocs⟩ : ∃ L : List Loc, L = [] := ⟨_, rfl⟩
  rw [← hlocs] at hw ⊢
  unfold zf_X10_no10 at hf
  obtain ⟨-, hf⟩ := zo_n hf
  refine zl_aload_n hx hb zd_X10_no10_0 rfl (lv_at hl 0 rfl) ?_
  refine lv_iload_n hx hb zd_X10_no10_1 rfl (lv_at hl 1 rfl) ?_
  replace hf := zo_b hf; obtain ⟨r1, er1, hf⟩ := hf
  refine zw_callV (n := 1) (ci := 10) (q := zc_cl[10]) (As := [.int (x1)]) (rest := []) S hK hw (zt_X10_no l g h q x1 _ er1) zm_1219 zm_1221 zm_24 zq_X10_no zm_79 (by decide +kernel) ⟨Nat.le_of_ble_eq_true rfl, Nat.le_of_ble_eq_true rfl⟩ rfl rfl rfl (zi_X10_no er1) hl.1 rfl (by simp [zv_cat, zv_ci, zv_cj]) zd_X10_no10_2 ⟨(Nat.le_refl 0), (Nat.le_refl 0)⟩ (fun H locs hw => ?_)
  replace hw : zc_W g r1.1 H locs := hw
  refine lv_bipush (v := 10) hx hb zd_X10_no10_5 (by decide) ?_
  refine lv_isub hx hb zd_X10_no10_7 ?_
  have hres := Option.some.inj hf; subst hres
  exact zw_iret (v := (r1.2 - 10)) (ty := .int) hx hb hr hlk rfl hw zd_X10_no10_8 (Nat.le_refl 0) (Nat.le_refl 0)
def zf_X10_within (h : zc_H) (x0 : Int32) (x1 : Int32) (x2 : Int32) : Option (Int32) :=
  if x0 < x1 then
    some 0
  else
  if x2 < x0 then
    some 0
  else
  some 1
abbrev zr_X10_within : Room := { frames := 0, cells := 0, slots := 0, locals := 0 }
set_option maxHeartbeats 4000000 in
set_option maxRecDepth 20000 in
theorem zt_X10_within (l : Launch) (g : zc_G) (h : zc_H) (x0 : Int32) (x1 : Int32) (x2 : Int32) (res : Int32) (hf : zf_X10_within h x0 x1 x2 = some res) : zc_M l g yX10_within cX10_within 3 (some .boolean) zr_X10_within h [.int (x0), .int (x1), .int (x2)] h (some (.int (res))) := by
  refine zc_M.of (by decide) (by simp [lg_sl, zv_cat, zv_ci, zv_cj]) ?_
  intro p e s m below meth c ls S hK hw hr hlk hnm hl
  replace S : CallFix p m c cX10_within 3 s [.int (x0), .int (x1), .int (x2)].toArray (zc_ws yX10_within cX10_within 3 (some .boolean)) RX10 := S
  have hx := S.1
  have hb := S.2.1
  replace hl : lv_has ls 3 [(0, .int (x0)), (1, .int (x1)), (2, .int (x2))] := by simpa [lv_args, zv_cat, zv_ci, zv_cj] using hl
  generalize s.heap = H at hw ⊢
  obtain ⟨locs, hlocs⟩ : ∃ L : List Loc, L = [] := ⟨_, rfl⟩
  rw [← hlocs] at hw ⊢
  unfold zf_X10_within at hf
  refine lv_iload_n hx hb zd_X10_within_0 rfl (lv_at hl 0 rfl) ?_
  refine lv_iload_n hx hb zd_X10_within_1 rfl (lv_at hl 1 rfl) ?_
  refine lv_icmp_lt (tgt := 14) hx hb zd_X10_within_2 (by decide) (fun c1 => ?_) (fun c1 => ?_)
  · replace hf := zo_t c1 hf
    refine lv_iconst (v := 0) hx hb zd_X10_within_14 (by decide) ?_
    have hres := Option.some.inj hf; subst hres
    exact zw_iret (v := 0) (ty := .boolean) hx hb hr hlk rfl hw zd_X10_within_15 (Nat.le_refl 0) (Nat.le_refl 0)
  · replace hf := zo_f c1 hf
    refine lv_iload_n hx hb zd_X10_within_5 rfl (lv_at hl 0 rfl) ?_
    refine lv_iload_n hx hb zd_X10_within_6 rfl (lv_at hl 2 rfl) ?_
    refine lv_icmp_gt (tgt := 14) hx hb zd_X10_within_7 (by decide) (fun c2 => ?_) (fun c2 => ?_)
    · replace hf := zo_t c2 hf
      refine lv_iconst (v := 0) hx hb zd_X10_within_14 (by decide) ?_
      have hres := Option.some.inj hf; subst hres
      exact zw_iret (v := 0) (ty := .boolean) hx hb hr hlk rfl hw zd_X10_within_15 (Nat.le_refl 0) (Nat.le_refl 0)
    · replace hf := zo_f c2 hf
      refine lv_iconst (v := 1) hx hb zd_X10_within_10 (by decide) ?_
      refine lv_goto (tgt := 15) hx hb zd_X10_within_11 (by decide) ?_
      have hres := Option.some.inj hf; subst hres
      exact zw_iret (v := 1) (ty := .boolean) hx hb hr hlk rfl hw zd_X10_within_15 (Nat.le_refl 0) (Nat.le_refl 0)
def zf_X10_isRevision (h : zc_H) (q : Nat) (x1 : Int32) : Option (Int32) :=
  if ¬ zf_is h q 10 = true then none else
  (zf_gi h q 10 0).bind fun v1 =>
  (zf_X10_within h x1 0 (v1 - 1)).bind fun r3 =>
  if ¬ (r3 = 0 ∨ r3 = 1) then none else
  some r3
abbrev zr_X10_isRevision : Room := { frames := 1, cells := 0, slots := 0, locals := 22 }
theorem zi_X10_isRevision {h : zc_H} {q : Nat} {x1 : Int32} {res : Int32} (hf : zf_X10_isRevision h q x1 = some res) : zf_is h q 10 = true := Decidable.not_not.mp (zo_n hf).1
set_option maxHeartbeats 4000000 in
set_option maxRecDepth 20000 in
theorem zt_X10_isRevision (l : Launch) (g : zc_G) (h : zc_H) (q : Nat) (x1 : Int32) (res : Int32) (hf : zf_X10_isRevision h q x1 = some res) : zc_M l g yX10_isRevision cX10_isRevision 2 (some .boolean) zr_X10_isRevision h [va_rf ((some q)), .int (x1)] h (some (.int (res))) := by
  refine zc_M.of (by decide) (by simp [lg_sl, zv_cat, zv_ci, zv_cj]) ?_
  intro p e s m below meth c ls S hK hw hr hlk hnm hl
  replace S : CallFix p m c cX10_isRevision 2 s [va_rf ((some q)), .int (x1)].toArray (zc_ws yX10_isRevision cX10_isRevision 2 (some .boolean)) RX10 := S
  have hx := S.1
  have hb := S.2.1
  replace hl : lv_has ls 2 [(0, va_rf ((some q))), (1, .int (x1))] := by simpa [lv_args, zv_cat, zv_ci, zv_cj] using hl
  generalize s.heap = H at hw ⊢
  obtain ⟨locs, hlocs⟩ : ∃ L : List Loc, L = [] := ⟨_, rfl⟩
  rw [← hlocs] at hw ⊢
  unfold zf_X10_isRevision at hf
  obtain ⟨-, hf⟩ := zo_n hf
  refine lv_iload_n hx hb zd_X10_isRevision_0 rfl (lv_at hl 1 rfl) ?_
  refine lv_iconst (v := 0) hx hb zd_X10_isRevision_1 (by decide) ?_
  refine zl_aload_n hx hb zd_X10_isRevision_2 rfl (lv_at hl 0 rfl) ?_
  replace hf := zo_b hf; obtain ⟨v1, ev1, hf⟩ := hf
  obtain ⟨u2, u2e, u2v⟩ := zo_b ev1
  obtain rfl := zv_i_e u2v
  refine zw_get S hK hw zk_10 (k := 0) (by decide) rfl zm_1088 (Or.inl rfl) u2e zd_X10_isRevision_3 ?_
  refine lv_iconst (v := 1) hx hb zd_X10_isRevision_6 (by decide) ?_
  refine lv_isub hx hb zd_X10_isRevision_7 ?_
  replace hf := zo_b hf; obtain ⟨r3, er3, hf⟩ := hf
  refine zw_callS (n := 3) (As := [.int (x1), .int (0), .int ((v1 - 1))]) (rest := []) S hK hw (zt_X10_within l g h x1 0 (v1 - 1) _ er3) zm_1216 zm_1217 zq_X10_within zm_79 (by decide +kernel) ⟨Nat.le_of_ble_eq_true rfl, Nat.le_of_ble_eq_true rfl⟩ rfl hl.1 rfl (by simp [zv_cat, zv_ci, zv_cj]) zd_X10_isRevision_8 ⟨(Nat.le_refl 0), (Nat.le_refl 0)⟩ (fun H locs hw => ?_)
  replace hw : zc_W g h H locs := hw
  replace hf := zo_n hf; obtain ⟨z4, hf⟩ := hf
  have hres := Option.some.inj hf; subst hres
  exact zw_iret (v := r3) (ty := .boolean) hx hb hr hlk (zv_z1 (Decidable.not_not.mp z4)) hw zd_X10_isRevision_11 (Nat.le_refl 0) (Nat.le_refl 0)
def zf_X10_isRemark (h : zc_H) (q : Nat) (x1 : Int32) : Option (Int32) :=
  if ¬ zf_is h q 10 = true then none else
  (zf_gi h q 10 5).bind fun v1 =>
  (zf_X10_within h x1 0 (v1 - 1)).bind fun r3 =>
  if ¬ (r3 = 0 ∨ r3 = 1) then none else
  some r3
abbrev zr_X10_isRemark : Room := { frames := 1, cells := 0, slots := 0, locals := 22 }
theorem zi_X10_isRemark {h : zc_H} {q : Nat} {x1 : Int32} {res : Int32} (hf : zf_X10_isRemark h q x1 = some res) : zf_is h q 10 = true := Decidable.not_not.mp (zo_n hf).1
set_option maxHeartbeats 4000000 in
set_option maxRecDepth 20000 in
theorem zt_X10_isRemark (l : Launch) (g : zc_G) (h : zc_H) (q : Nat) (x1 : Int32) (res : Int32) (hf : zf_X10_isRemark h q x1 = some res) : zc_M l g yX10_isRemark cX10_isRemark 2 (some .boolean) zr_X10_isRemark h [va_rf ((some q)), .int (x1)] h (some (.int (res))) := by
  refine zc_M.of (by decide) (by simp [lg_sl, zv_cat, zv_ci, zv_cj]) ?_
  intro p e s m below meth c ls S hK hw hr hlk hnm hl
  replace S : CallFix p m c cX10_isRemark 2 s [va_rf ((some q)), .int (x1)].toArray (zc_ws yX10_isRemark cX10_isRemark 2 (some .boolean)) RX10 := S
  have hx := S.1
  have hb := S.2.1
  replace hl : lv_has ls 2 [(0, va_rf ((some q))), (1, .int (x1))] := by simpa [lv_args, zv_cat, zv_ci, zv_cj] using hl
  generalize s.heap = H at hw ⊢
  obtain ⟨locs, hlocs⟩ : ∃ L : List Loc, L = [] := ⟨_, rfl⟩
  rw [← hlocs] at hw ⊢
  unfold zf_X10_isRemark at hf
  obtain ⟨-, hf⟩ := zo_n hf
  refine lv_iload_n hx hb zd_X10_isRemark_0 rfl (lv_at hl 1 rfl) ?_
  refine lv_iconst (v := 0) hx hb zd_X10_isRemark_1 (by decide) ?_
  refine zl_aload_n hx hb zd_X10_isRemark_2 rfl (lv_at hl 0 rfl) ?_
  replace hf := zo_b hf; obtain ⟨v1, ev1, hf⟩ := hf
  obtain ⟨u2, u2e, u2v⟩ := zo_b ev1
  obtain rfl := zv_i_e u2v
  refine zw_get S hK hw zk_10 (k := 5) (by decide) rfl zm_1093 (Or.inl rfl) u2e zd_X10_isRemark_3 ?_
  refine lv_iconst (v := 1) hx hb zd_X10_isRemark_6 (by decide) ?_
  refine lv_isub hx hb zd_X10_isRemark_7 ?_
  replace hf := zo_b hf; obtain ⟨r3, er3, hf⟩ := hf
  refine zw_callS (n := 3) (As := [.int (x1), .int (0), .int ((v1 - 1))]) (rest := []) S hK hw (zt_X10_within l g h x1 0 (v1 - 1) _ er3) zm_1216 zm_1217 zq_X10_within zm_79 (by decide +kernel) ⟨Nat.le_of_ble_eq_true rfl, Nat.le_of_ble_eq_true rfl⟩ rfl hl.1 rfl (by simp [zv_cat, zv_ci, zv_cj]) zd_X10_isRemark_8 ⟨(Nat.le_refl 0), (Nat.le_refl 0)⟩ (fun H locs hw => ?_)
  replace hw : zc_W g h H locs := hw
  replace hf := zo_n hf; obtain ⟨z4, hf⟩ := hf
  have hres := Option.some.inj hf; subst hres
  exact zw_iret (v := r3) (ty := .boolean) hx hb hr hlk (zv_z1 (Decidable.not_not.mp z4)) hw zd_X10_isRemark_11 (Nat.le_refl 0) (Nat.le_refl 0)
def zf_X10_isLine (h : zc_H) (q : Nat) (x1 : Int32) (x2 : Int32) : Option (Int32) :=
  if ¬ zf_is h q 10 = true then none else
  (zf_gr h q 10 2).bind fun v1 =>
  v1.bind fun a3 =>
  (zf_ai h a3 0 x1).bind fun v4 =>
  (zf_X10_within h x2 0 (v4 - 1)).bind fun r5 =>
  if ¬ (r5 = 0 ∨ r5 = 1) then none else
  some r5
abbrev zr_X10_isLine : Room := { frames := 1, cells := 0, slots := 0, locals := 22 }
theorem zi_X10_isLine {h : zc_H} {q : Nat} {x1 : Int32} {x2 : Int32} {res : Int32} (hf : zf_X10_isLine h q x1 x2 = some res) : zf_is h q 10 = true := Decidable.not_not.mp (zo_n hf).1
set_option maxHeartbeats 4000000 in
set_option maxRecDepth 20000 in
theorem zt_X10_isLine (l : Launch) (g : zc_G) (h : zc_H) (q : Nat) (x1 : Int32) (x2 : Int32) (res : Int32) (hf : zf_X10_isLine h q x1 x2 = some res) : zc_M l g yX10_isLine cX10_isLine 3 (some .boolean) zr_X10_isLine h [va_rf ((some q)), .int (x1), .int (x2)] h (some (.int (res))) := by
  refine zc_M.of (by decide) (by simp [lg_sl, zv_cat, zv_ci, zv_cj]) ?_
  intro p e s m below meth c ls S hK hw hr hlk hnm hl
  replace S : CallFix p m c cX10_isLine 3 s [va_rf ((some q)), .int (x1), .int (x2)].toArray (zc_ws yX10_isLine cX10_isLine 3 (some .boolean)) RX10 := S
  have hx := S.1
  have hb := S.2.1
  replace hl : lv_has ls 3 [(0, va_rf ((some q))), (1, .int (x1)), (2, .int (x2))] := by simpa [lv_args, zv_cat, zv_ci, zv_cj] using hl
  generalize s.heap = H at hw ⊢
  obtain ⟨locs, hlocs⟩ : ∃ L : List Loc, L = [] := ⟨_, rfl⟩
  rw [← hlocs] at hw ⊢
  unfold zf_X10_isLine at hf
  obtain ⟨-, hf⟩ := zo_n hf
  refine lv_iload_n hx hb zd_X10_isLine_0 rfl (lv_at hl 2 rfl) ?_
  refine lv_iconst (v := 0) hx hb zd_X10_isLine_1 (by decide) ?_
  refine zl_aload_n hx hb zd_X10_isLine_2 rfl (lv_at hl 0 rfl) ?_
  replace hf := zo_b hf; obtain ⟨v1, ev1, hf⟩ := hf
  obtain ⟨u2, u2e, u2v⟩ := zo_b ev1
  obtain rfl := zv_r_e u2v
  refine zw_get S hK hw zk_10 (k := 2) (by decide) rfl zm_1090 (Or.inl rfl) u2e zd_X10_isLine_3 ?_
  refine lv_iload_n hx hb zd_X10_isLine_6 rfl (lv_at hl 1 rfl) ?_
  replace hf := zo_b hf; obtain ⟨a3, na3, hf⟩ := hf
  refine W.eq (g2 := F0 m 7 ls [.int (x1), va_rf ((some a3)), .int (0), .int (x2)]) (by rw [na3] <;> rfl) ?_
  replace hf := zo_b hf; obtain ⟨v4, ev4, hf⟩ := hf
  refine zw_iald S hK hw ev4 zd_X10_isLine_7 ?_
  refine lv_iconst (v := 1) hx hb zd_X10_isLine_8 (by decide) ?_
  refine lv_isub hx hb zd_X10_isLine_9 ?_
  replace hf := zo_b hf; obtain ⟨r5, er5, hf⟩ := hf
  refine zw_callS (n := 3) (As := [.int (x2), .int (0), .int ((v4 - 1))]) (rest := []) S hK hw (zt_X10_within l g h x2 0 (v4 - 1) _ er5) zm_1216 zm_1217 zq_X10_within zm_79 (by decide +kernel) ⟨Nat.le_of_ble_eq_true rfl, Nat.le_of_ble_eq_true rfl⟩ rfl hl.1 rfl (by simp [zv_cat, zv_ci, zv_cj]) zd_X10_isLine_10 ⟨(Nat.le_refl 0), (Nat.le_refl 0)⟩ (fun H locs hw => ?_)
  replace hw : zc_W g h H locs := hw
  replace hf := zo_n hf; obtain ⟨z6, hf⟩ := hf
  have hres := Option.some.inj hf; subst hres
  exact zw_iret (v := r5) (ty := .boolean) hx hb hr hlk (zv_z1 (Decidable.not_not.mp z6)) hw zd_X10_isLine_13 (Nat.le_refl 0) (Nat.le_refl 0)
def zf_X10_isRow (h : zc_H) (q : Nat) (x1 : Int32) : Option (Int32) :=
  if ¬ zf_is h q 10 = true then none else
  (zf_gr h q 10 9).bind fun v1 =>
  v1.bind fun a3 =>
  (zf_ai h a3 0 x1).bind fun v4 =>
  if v4 < 100 then
    some 0
  else
  some 1
abbrev zr_X10_isRow : Room := { frames := 0, cells := 0, slots := 0, locals := 0 }
theorem zi_X10_isRow {h : zc_H} {q : Nat} {x1 : Int32} {res : Int32} (hf : zf_X10_isRow h q x1 = some res) : zf_is h q 10 = true := Decidable.not_not.mp (zo_n hf).1
set_option maxHeartbeats 4000000 in
set_option maxRecDepth 20000 in
theorem zt_X10_isRow (l : Launch) (g : zc_G) (h : zc_H) (q : Nat) (x1 : Int32) (res : Int32) (hf : zf_X10_isRow h q x1 = some res) : zc_M l g yX10_isRow cX10_isRow 2 (some .boolean) zr_X10_isRow h [va_rf ((some q)), .int (x1)] h (some (.int (res))) := by
  refine zc_M.of (by decide) (by simp [lg_sl, zv_cat, zv_ci, zv_cj]) ?_
  intro p e s m below meth c ls S hK hw hr hlk hnm hl
  replace S : CallFix p m c cX10_isRow 2 s [va_rf ((some q)), .int (x1)].toArray (zc_ws yX10_isRow cX10_isRow 2 (some .boolean)) RX10 := S
  have hx := S.1
  have hb := S.2.1
  replace hl : lv_has ls 2 [(0, va_rf ((some q))), (1, .int (x1))] := by simpa [lv_args, zv_cat, zv_ci, zv_cj] using hl
  generalize s.heap = H at hw ⊢
  obtain ⟨locs, hlocs⟩ : ∃ L : List Loc, L = [] := ⟨_, rfl⟩
  rw [← hlocs] at hw ⊢
  unfold zf_X10_isRow at hf
  obtain ⟨-, hf⟩ := zo_n hf
  refine zl_aload_n hx hb zd_X10_isRow_0 rfl (lv_at hl 0 rfl) ?_
  replace hf := zo_b hf; obtain ⟨v1, ev1, hf⟩ := hf
  obtain ⟨u2, u2e, u2v⟩ := zo_b ev1
  obtain rfl := zv_r_e u2v
  refine zw_get S hK hw zk_10 (k := 9) (by decide) rfl zm_1097 (Or.inl rfl) u2e zd_X10_isRow_1 ?_
  refine lv_iload_n hx hb zd_X10_isRow_4 rfl (lv_at hl 1 rfl) ?_
  replace hf := zo_b hf; obtain ⟨a3, na3, hf⟩ := hf
  refine W.eq (g2 := F0 m 5 ls [.int (x1), va_rf ((some a3))]) (by rw [na3] <;> rfl) ?_
  replace hf := zo_b hf; obtain ⟨v4, ev4, hf⟩ := hf
  refine zw_iald S hK hw ev4 zd_X10_isRow_5 ?_
  refine lv_bipush (v := 100) hx hb zd_X10_isRow_6 (by decide) ?_
  refine lv_icmp_lt (tgt := 15) hx hb zd_X10_isRow_8 (by decide) (fun c5 => ?_) (fun c5 => ?_)
  · replace hf := zo_t c5 hf
    refine lv_iconst (v := 0) hx hb zd_X10_isRow_15 (by decide) ?_
    have hres := Option.some.inj hf; subst hres
    exact zw_iret (v := 0) (ty := .boolean) hx hb hr hlk rfl hw zd_X10_isRow_16 (Nat.le_refl 0) (Nat.le_refl 0)
  · replace hf := zo_f c5 hf
    refine lv_iconst (v := 1) hx hb zd_X10_isRow_11 (by decide) ?_
    refine lv_goto (tgt := 16) hx hb zd_X10_isRow_12 (by decide) ?_
    have hres := Option.some.inj hf; subst hres
    exact zw_iret (v := 1) (ty := .boolean) hx hb hr hlk rfl hw zd_X10_isRow_16 (Nat.le_refl 0) (Nat.le_refl 0)
def zf_X10_row_L77 (q : Nat) (y1 : Int32) : Nat → zc_H → Int32 → Option (zc_H)
  | 0, _, _ => none
  | n + 1, h, y4 =>
    if 160 ≤ y4 then
      some h
    else
    (zf_gr h q 10 11).bind fun v16 =>
    v16.bind fun a18 =>
    (zf_sj h a18 ((160 * y1) + y4) 0).bind fun h19 =>
    zf_X10_row_L77 q y1 n h19 (y4 + 1)
def zf_X10_row (h : zc_H) (q : Nat) (x1 : Int32) (x2 : Int32) (x3 : Int32) : Option (zc_H × Int32) :=
  if ¬ zf_is h q 10 = true then none else
  (zf_X10_within h x1 0 7).bind fun r1 =>
  if r1 = 0 then
    (zf_X10_no h q (-1)).bind fun r24 =>
    some (r24.1, r24.2)
  else
  if 0 ≤ x3 then
    (zf_X10_within h x2 0 3).bind fun r4 =>
    if r4 = 0 then
      (zf_X10_no h q (-6)).bind fun r22 =>
      some (r22.1, r22.2)
    else
    if x3 ≤ 160 then
      (zf_gr h q 10 9).bind fun v7 =>
      v7.bind fun a9 =>
      (zf_si h a9 0 x1 (100 + x2)).bind fun h10 =>
      (zf_gr h10 q 10 10).bind fun v11 =>
      v11.bind fun a13 =>
      (zf_si h10 a13 0 x1 x3).bind fun h14 =>
      (zf_X10_row_L77 q x1 2000 h14 0).bind fun w20 =>
      some (w20, 1)
    else
    (zf_X10_no h q (-7)).bind fun r21 =>
    some (r21.1, r21.2)
  else
  (zf_X10_no h q (-4)).bind fun r23 =>
  some (r23.1, r23.2)
abbrev zr_X10_row : Room := { frames := 1, cells := 0, slots := 0, locals := 22 }
theorem zi_X10_row {h : zc_H} {q : Nat} {x1 : Int32} {x2 : Int32} {x3 : Int32} {res : zc_H × Int32} (hf : zf_X10_row h q x1 x2 x3 = some res) : zf_is h q 10 = true := Decidable.not_not.mp (zo_n hf).1
set_option maxHeartbeats 4000000 in
set_option maxRecDepth 20000 in
theorem zt_X10_row (l : Launch) (g : zc_G) (h : zc_H) (q : Nat) (x1 : Int32) (x2 : Int32) (x3 : Int32) (res : zc_H × Int32) (hf : zf_X10_row h q x1 x2 x3 = some res) : zc_M l g yX10_row cX10_row 5 (some .int) zr_X10_row h [va_rf ((some q)), .int (x1), .int (x2), .int (x3)] res.1 (some (.int (res.2))) := by
  refine zc_M.of (by decide) (by simp [lg_sl, zv_cat, zv_ci, zv_cj]) ?_
  intro p e s m below meth c ls S hK hw hr hlk hnm hl
  replace S : CallFix p m c cX10_row 5 s [va_rf ((some q)), .int (x1), .int (x2), .int (x3)].toArray (zc_ws yX10_row cX10_row 5 (some .int)) RX10 := S
  have hx := S.1
  have hb := S.2.1
  replace hl : lv_has ls 5 [(0, va_rf ((some q))), (1, .int (x1)), (2, .int (x2)), (3, .int (x3))] := by simpa [lv_args, zv_cat, zv_ci, zv_cj] using hl
  generalize s.heap = H at hw ⊢
  obtain ⟨locs, hlocs⟩ : ∃ L : List Loc, L = [] := ⟨_, rfl⟩
  rw [← hlocs] at hw ⊢
  have L77 : ∀ (y1 : Int32) (n : Nat) (h : zc_H) (y4 : Int32) (w : zc_H) (H : Heap) (locs : List Loc) (ls : Array Slot), zf_X10_row_L77 q y1 n h y4 = some w → zc_W g h H locs → lv_has ls 5 [(0, va_rf ((some q))), (1, .int (y1)), (4, .int (y4))] → (∀ (H : Heap) (locs : List Loc) (ls : Array Slot), zc_W g w H locs → lv_has ls 5 [] → W p l e zr_X10_row s m [va_rf ((some q)), .int (x1), .int (x2), .int (x3)].toArray below meth c H locs 0 0 (zc_Q g below zr_X10_row (some (.int (res.2))) res.1 [va_rf ((some q)), .int (x1), .int (x2), .int (x3)] s) (F0 m 105 ls [])) → W p l e zr_X10_row s m [va_rf ((some q)), .int (x1), .int (x2), .int (x3)].toArray below meth c H locs 0 0 (zc_Q g below zr_X10_row (some (.int (res.2))) res.1 [va_rf ((some q)), .int (x1), .int (x2), .int (x3)] s) (F0 m 77 ls []) := by
    intro y1 n
    induction n with
    | zero =>
      intro h y4 w H locs ls hf
      cases hf
    | succ n ih =>
      intro h y4 w H locs ls hf hw hl  kk
      unfold zf_X10_row_L77 at hf
      refine lv_iload hx hb zd_X10_row_77 (lv_at hl 2 rfl) ?_
      refine lv_sipush (v := 160) hx hb zd_X10_row_79 (by decide) ?_
      refine lv_icmp_ge (tgt := 105) hx hb zd_X10_row_82 (by decide) (fun c15 => ?_) (fun c15 => ?_)
      · replace hf := zo_t c15 hf
        have hres := Option.some.inj hf; subst hres
        exact kk _ _ _ hw (lv_sub hl [] rfl)
      · replace hf := zo_f c15 hf
        refine zl_aload_n hx hb zd_X10_row_85 rfl (lv_at hl 0 rfl) ?_
        replace hf := zo_b hf; obtain ⟨v16, ev16, hf⟩ := hf
        obtain ⟨u17, u17e, u17v⟩ := zo_b ev16
        obtain rfl := zv_r_e u17v
        refine zw_get S hK hw zk_10 (k := 11) (by decide) rfl zm_1099 (Or.inl rfl) u17e zd_X10_row_86 ?_
        refine lv_sipush (v := 160) hx hb zd_X10_row_89 (by decide) ?_
        refine lv_iload_n hx hb zd_X10_row_92 rfl (lv_at hl 1 rfl) ?_
        refine lv_imul hx hb zd_X10_row_93 ?_
        refine lv_iload hx hb zd_X10_row_94 (lv_at hl 2 rfl) ?_
        refine lv_iadd hx hb zd_X10_row_96 ?_
        refine lv_lconst (v := 0) hx hb zd_X10_row_97 (by decide) ?_
        replace hf := zo_b hf; obtain ⟨a18, na18, hf⟩ := hf
        refine W.eq (g2 := F0 m 98 ls [.long (0), .int (((160 * y1) + y4)), va_rf ((some a18))]) (by rw [na18] <;> rfl) ?_
        replace hf := zo_b hf; obtain ⟨h19, eh19, hf⟩ := hf
        refine zw_last S hK hw eh19 zd_X10_row_98 (fun H locs hw => ?_)
        refine lv_iinc (i := 4) (v := (y4 + 1)) (lv' := [(4, .int ((y4 + 1))), (0, va_rf ((some q))), (1, .int (y1))]) hx hb zd_X10_row_99 hl (k := 2) rfl (congrArg (_ + ·) (by decide)) (by decide) rfl (fun ls hl => ?_)
        refine lv_goto (tgt := 77) hx hb zd_X10_row_102 (by decide) ?_
        exact ih h19 (y4 + 1) _ _ _ _ hf hw (lv_sub hl [1, 2, 0] rfl) kk
  unfold zf_X10_row at hf
  obtain ⟨-, hf⟩ := zo_n hf
  refine lv_iload_n hx hb zd_X10_row_0 rfl (lv_at hl 1 rfl) ?_
  refine lv_iconst (v := 0) hx hb zd_X10_row_1 (by decide) ?_
  refine lv_bipush (v := 7) hx hb zd_X10_row_2 (by decide) ?_
  replace hf := zo_b hf; obtain ⟨r1, er1, hf⟩ := hf
  refine zw_callS (n := 3) (As := [.int (x1), .int (0), .int (7)]) (rest := []) S hK hw (zt_X10_within l g h x1 0 7 _ er1) zm_1216 zm_1217 zq_X10_within zm_79 (by decide +kernel) ⟨Nat.le_of_ble_eq_true rfl, Nat.le_of_ble_eq_true rfl⟩ rfl hl.1 rfl (by simp [zv_cat, zv_ci, zv_cj]) zd_X10_row_4 ⟨(Nat.le_refl 0), (Nat.le_refl 0)⟩ (fun H locs hw => ?_)
  replace hw : zc_W g h H locs := hw
  refine lv_if_ne (tgt := 16) hx hb zd_X10_row_7 (by decide) (fun c2 => ?_) (fun c2 => ?_)
  · replace hf := zo_f c2 hf
    refine lv_iload_n hx hb zd_X10_row_16 rfl (lv_at hl 3 rfl) ?_
    refine lv_if_ge (tgt := 27) hx hb zd_X10_row_17 (by decide) (fun c3 => ?_) (fun c3 => ?_)
    · replace hf := zo_t c3 hf
      refine lv_iload_n hx hb zd_X10_row_27 rfl (lv_at hl 2 rfl) ?_
      refine lv_iconst (v := 0) hx hb zd_X10_row_28 (by decide) ?_
      refine lv_iconst (v := 3) hx hb zd_X10_row_29 (by decide) ?_
      replace hf := zo_b hf; obtain ⟨r4, er4, hf⟩ := hf
      refine zw_callS (n := 3) (As := [.int (x2), .int (0), .int (3)]) (rest := []) S hK hw (zt_X10_within l g h x2 0 3 _ er4) zm_1216 zm_1217 zq_X10_within zm_79 (by decide +kernel) ⟨Nat.le_of_ble_eq_true rfl, Nat.le_of_ble_eq_true rfl⟩ rfl hl.1 rfl (by simp [zv_cat, zv_ci, zv_cj]) zd_X10_row_30 ⟨(Nat.le_refl 0), (Nat.le_refl 0)⟩ (fun H locs hw => ?_)
      replace hw : zc_W g h H locs := hw
      refine lv_if_ne (tgt := 43) hx hb zd_X10_row_33 (by decide) (fun c5 => ?_) (fun c5 => ?_)
      · replace hf := zo_f c5 hf
        refine lv_iload_n hx hb zd_X10_row_43 rfl (lv_at hl 3 rfl) ?_
        refine lv_sipush (v := 160) hx hb zd_X10_row_44 (by decide) ?_
        refine lv_icmp_le (tgt := 57) hx hb zd_X10_row_47 (by decide) (fun c6 => ?_) (fun c6 => ?_)
        · replace hf := zo_t c6 hf
          refine zl_aload_n hx hb zd_X10_row_57 rfl (lv_at hl 0 rfl) ?_
          replace hf := zo_b hf; obtain ⟨v7, ev7, hf⟩ := hf
          obtain ⟨u8, u8e, u8v⟩ := zo_b ev7
          obtain rfl := zv_r_e u8v
          refine zw_get S hK hw zk_10 (k := 9) (by decide) rfl zm_1097 (Or.inl rfl) u8e zd_X10_row_58 ?_
          refine lv_iload_n hx hb zd_X10_row_61 rfl (lv_at hl 1 rfl) ?_
          refine lv_bipush (v := 100) hx hb zd_X10_row_62 (by decide) ?_
          refine lv_iload_n hx hb zd_X10_row_64 rfl (lv_at hl 2 rfl) ?_
          refine lv_iadd hx hb zd_X10_row_65 ?_
          replace hf := zo_b hf; obtain ⟨a9, na9, hf⟩ := hf
          refine W.eq (g2 := F0 m 66 ls [.int ((100 + x2)), .int (x1), va_rf ((some a9))]) (by rw [na9] <;> rfl) ?_
          replace hf := zo_b hf; obtain ⟨h10, eh10, hf⟩ := hf
          refine zw_iast S hK hw eh10 zd_X10_row_66 (fun H locs hw => ?_)
          refine zl_aload_n hx hb zd_X10_row_67 rfl (lv_at hl 0 rfl) ?_
          replace hf := zo_b hf; obtain ⟨v11, ev11, hf⟩ := hf
          obtain ⟨u12, u12e, u12v⟩ := zo_b ev11
          obtain rfl := zv_r_e u12v
          refine zw_get S hK hw zk_10 (k := 10) (by decide) rfl zm_1098 (Or.inl rfl) u12e zd_X10_row_68 ?_
          refine lv_iload_n hx hb zd_X10_row_71 rfl (lv_at hl 1 rfl) ?_
          refine lv_iload_n hx hb zd_X10_row_72 rfl (lv_at hl 3 rfl) ?_
          replace hf := zo_b hf; obtain ⟨a13, na13, hf⟩ := hf
          refine W.eq (g2 := F0 m 73 ls [.int (x3), .int (x1), va_rf ((some a13))]) (by rw [na13] <;> rfl) ?_
          replace hf := zo_b hf; obtain ⟨h14, eh14, hf⟩ := hf
          refine zw_iast S hK hw eh14 zd_X10_row_73 (fun H locs hw => ?_)
          refine lv_iconst (v := 0) hx hb zd_X10_row_74 (by decide) ?_
          refine lv_istore (i := 4) (lv' := [(4, .int (0)), (0, va_rf ((some q))), (1, .int (x1)), (2, .int (x2)), (3, .int (x3))]) hx hb zd_X10_row_75 hl (by decide) rfl (fun ls hl => ?_)
          replace hf := zo_b hf; obtain ⟨w20, w20e, hf⟩ := hf
          refine L77 x1 2000 h14 0 _ _ _ _ w20e hw (lv_sub hl [1, 2, 0] rfl) (fun H locs ls hw hl => ?_)
          refine lv_iconst (v := 1) hx hb zd_X10_row_105 (by decide) ?_
          have hres := Option.some.inj hf; subst hres
          exact zw_iret (v := 1) (ty := .int) hx hb hr hlk rfl hw zd_X10_row_106 (Nat.le_refl 0) (Nat.le_refl 0)
        · replace hf := zo_f c6 hf
          refine zl_aload_n hx hb zd_X10_row_50 rfl (lv_at hl 0 rfl) ?_
          refine lv_bipush (v := (-7)) hx hb zd_X10_row_51 (by decide) ?_
          replace hf := zo_b hf; obtain ⟨r21, er21, hf⟩ := hf
          refine zw_callV (n := 1) (ci := 10) (q := zc_cl[10]) (As := [.int ((-7))]) (rest := []) S hK hw (zt_X10_no l g h q (-7) _ er21) zm_1219 zm_1221 zm_24 zq_X10_no zm_79 (by decide +kernel) ⟨Nat.le_of_ble_eq_true rfl, Nat.le_of_ble_eq_true rfl⟩ rfl rfl rfl (zi_X10_no er21) hl.1 rfl (by simp [zv_cat, zv_ci, zv_cj]) zd_X10_row_53 ⟨(Nat.le_refl 0), (Nat.le_refl 0)⟩ (fun H locs hw => ?_)
          replace hw : zc_W g r21.1 H locs := hw
          have hres := Option.some.inj hf; subst hres
          exact zw_iret (v := r21.2) (ty := .int) hx hb hr hlk rfl hw zd_X10_row_56 (Nat.le_refl 0) (Nat.le_refl 0)
      · replace hf := zo_t c5 hf
        refine zl_aload_n hx hb zd_X10_row_36 rfl (lv_at hl 0 rfl) ?_
        refine lv_bipush (v := (-6)) hx hb zd_X10_row_37 (by decide) ?_
        replace hf := zo_b hf; obtain ⟨r22, er22, hf⟩ := hf
        refine zw_callV (n := 1) (ci := 10) (q := zc_cl[10]) (As := [.int ((-6))]) (rest := []) S hK hw (zt_X10_no l g h q (-6) _ er22) zm_1219 zm_1221 zm_24 zq_X10_no zm_79 (by decide +kernel) ⟨Nat.le_of_ble_eq_true rfl, Nat.le_of_ble_eq_true rfl⟩ rfl rfl rfl (zi_X10_no er22) hl.1 rfl (by simp [zv_cat, zv_ci, zv_cj]) zd_X10_row_39 ⟨(Nat.le_refl 0), (Nat.le_refl 0)⟩ (fun H locs hw => ?_)
        replace hw : zc_W g r22.1 H locs := hw
        have hres := Option.some.inj hf; subst hres
        exact zw_iret (v := r22.2) (ty := .int) hx hb hr hlk rfl hw zd_X10_row_42 (Nat.le_refl 0) (Nat.le_refl 0)
    · replace hf := zo_f c3 hf
      refine zl_aload_n hx hb zd_X10_row_20 rfl (lv_at hl 0 rfl) ?_
      refine lv_bipush (v := (-4)) hx hb zd_X10_row_21 (by decide) ?_
      replace hf := zo_b hf; obtain ⟨r23, er23, hf⟩ := hf
      refine zw_callV (n := 1) (ci := 10) (q := zc_cl[10]) (As := [.int ((-4))]) (rest := []) S hK hw (zt_X10_no l g h q (-4) _ er23) zm_1219 zm_1221 zm_24 zq_X10_no zm_79 (by decide +kernel) ⟨Nat.le_of_ble_eq_true rfl, Nat.le_of_ble_eq_true rfl⟩ rfl rfl rfl (zi_X10_no er23) hl.1 rfl (by simp [zv_cat, zv_ci, zv_cj]) zd_X10_row_23 ⟨(Nat.le_refl 0), (Nat.le_refl 0)⟩ (fun H locs hw => ?_)
      replace hw : zc_W g r23.1 H locs := hw
      have hres := Option.some.inj hf; subst hres
      exact zw_iret (v := r23.2) (ty := .int) hx hb hr hlk rfl hw zd_X10_row_26 (Nat.le_refl 0) (Nat.le_refl 0)
  · replace hf := zo_t c2 hf
    refine zl_aload_n hx hb zd_X10_row_10 rfl (lv_at hl 0 rfl) ?_
    refine lv_iconst (v := (-1)) hx hb zd_X10_row_11 (by decide) ?_
    replace hf := zo_b hf; obtain ⟨r24, er24, hf⟩ := hf
    refine zw_callV (n := 1) (ci := 10) (q := zc_cl[10]) (As := [.int ((-1))]) (rest := []) S hK hw (zt_X10_no l g h q (-1) _ er24) zm_1219 zm_1221 zm_24 zq_X10_no zm_79 (by decide +kernel) ⟨Nat.le_of_ble_eq_true rfl, Nat.le_of_ble_eq_true rfl⟩ rfl rfl rfl (zi_X10_no er24) hl.1 rfl (by simp [zv_cat, zv_ci, zv_cj]) zd_X10_row_12 ⟨(Nat.le_refl 0), (Nat.le_refl 0)⟩ (fun H locs hw => ?_)
    replace hw : zc_W g r24.1 H locs := hw
    have hres := Option.some.inj hf; subst hres
    exact zw_iret (v := r24.2) (ty := .int) hx hb hr hlk rfl hw zd_X10_row_15 (Nat.le_refl 0) (Nat.le_refl 0)
def zf_X10_noRow (h : zc_H) (q : Nat) (x1 : Int32) : Option (Int32) :=
  if ¬ zf_is h q 10 = true then none else
  (zf_X10_within h x1 0 7).bind fun r1 =>
  if r1 = 0 then
    some (-1)
  else
  (zf_gr h q 10 9).bind fun v3 =>
  v3.bind fun a5 =>
  (zf_ai h a5 0 x1).bind fun v6 =>
  let k32 := fun (_ : Unit) =>
    (zf_gr h q 10 9).bind fun v8 =>
    v8.bind fun a10 =>
    (zf_ai h a10 0 x1).bind fun v11 =>
    if 0 ≤ v11 then
      some 0
    else
    some (-3)
  if v6 < 0 then
    k32 ()
  else
  (zf_X10_isRow h q x1).bind fun r13 =>
  if r13 = 0 then
    some (-2)
  else
  k32 ()
abbrev zr_X10_noRow : Room := { frames := 1, cells := 0, slots := 0, locals := 22 }
theorem zi_X10_noRow {h : zc_H} {q : Nat} {x1 : Int32} {res : Int32} (hf : zf_X10_noRow h q x1 = some res) : zf_is h q 10 = true := Decidable.not_not.mp (zo_n hf).1
set_option maxHeartbeats 4000000 in
set_option maxRecDepth 20000 in
theorem zt_X10_noRow (l : Launch) (g : zc_G) (h : zc_H) (q : Nat) (x1 : Int32) (res : Int32) (hf : zf_X10_noRow h q x1 = some res) : zc_M l g yX10_noRow cX10_noRow 2 (some .int) zr_X10_noRow h [va_rf ((some q)), .int (x1)] h (some (.int (res))) := by
  refine zc_M.of (by decide) (by simp [lg_sl, zv_cat, zv_ci, zv_cj]) ?_
  intro p e s m below meth c ls S hK hw hr hlk hnm hl
  replace S : CallFix p m c cX10_noRow 2 s [va_rf ((some q)), .int (x1)].toArray (zc_ws yX10_noRow cX10_noRow 2 (some .int)) RX10 := S
  have hx := S.1
  have hb := S.2.1
  replace hl : lv_has ls 2 [(0, va_rf ((some q))), (1, .int (x1))] := by simpa [lv_args, zv_cat, zv_ci, zv_cj] using hl
  generalize s.heap = H at hw ⊢
  obtain ⟨locs, hlocs⟩ : ∃ L : List Loc, L = [] := ⟨_, rfl⟩
  rw [← hlocs] at hw ⊢
  unfold zf_X10_noRow at hf
  obtain ⟨-, hf⟩ := zo_n hf
  refine lv_iload_n hx hb zd_X10_noRow_0 rfl (lv_at hl 1 rfl) ?_
  refine lv_iconst (v := 0) hx hb zd_X10_noRow_1 (by decide) ?_
  refine lv_bipush (v := 7) hx hb zd_X10_noRow_2 (by decide) ?_
  replace hf := zo_b hf; obtain ⟨r1, er1, hf⟩ := hf
  refine zw_callS (n := 3) (As := [.int (x1), .int (0), .int (7)]) (rest := []) S hK hw (zt_X10_within l g h x1 0 7 _ er1) zm_1216 zm_1217 zq_X10_within zm_79 (by decide +kernel) ⟨Nat.le_of_ble_eq_true rfl, Nat.le_of_ble_eq_true rfl⟩ rfl hl.1 rfl (by simp [zv_cat, zv_ci, zv_cj]) zd_X10_noRow_4 ⟨(Nat.le_refl 0), (Nat.le_refl 0)⟩ (fun H locs hw => ?_)
  replace hw : zc_W g h H locs := hw
  refine lv_if_ne (tgt := 12) hx hb zd_X10_noRow_7 (by decide) (fun c2 => ?_) (fun c2 => ?_)
  · replace hf := zo_f c2 hf
    refine zl_aload_n hx hb zd_X10_noRow_12 rfl (lv_at hl 0 rfl) ?_
    replace hf := zo_b hf; obtain ⟨v3, ev3, hf⟩ := hf
    obtain ⟨u4, u4e, u4v⟩ := zo_b ev3
    obtain rfl := zv_r_e u4v
    refine zw_get S hK hw zk_10 (k := 9) (by decide) rfl zm_1097 (Or.inl rfl) u4e zd_X10_noRow_13 ?_
    refine lv_iload_n hx hb zd_X10_noRow_16 rfl (lv_at hl 1 rfl) ?_
    replace hf := zo_b hf; obtain ⟨a5, na5, hf⟩ := hf
    refine W.eq (g2 := F0 m 17 ls [.int (x1), va_rf ((some a5))]) (by rw [na5] <;> rfl) ?_
    replace hf := zo_b hf; obtain ⟨v6, ev6, hf⟩ := hf
    refine zw_iald S hK hw ev6 zd_X10_noRow_17 ?_
    have k32h : ∀ (_ : Unit) (H : Heap) (locs : List Loc) (ls : Array Slot), (
        (zf_gr h q 10 9).bind fun v8 =>
        v8.bind fun a10 =>
        (zf_ai h a10 0 x1).bind fun v11 =>
        if 0 ≤ v11 then
          some 0
        else
        some (-3)
        ) = some res → zc_W g h H locs → lv_has ls 2 [(0, va_rf ((some q))), (1, .int (x1))] → W p l e zr_X10_noRow s m [va_rf ((some q)), .int (x1)].toArray below meth c H locs (0 + 0) (0 + 0) (zc_Q g below zr_X10_noRow (some (.int (res))) h [va_rf ((some q)), .int (x1)] s) (F0 m 32 ls []) := by
      intro _ H locs ls hf hw hl
      refine zl_aload_n hx hb zd_X10_noRow_32 rfl (lv_at hl 0 rfl) ?_
      replace hf := zo_b hf; obtain ⟨v8, ev8, hf⟩ := hf
      obtain ⟨u9, u9e, u9v⟩ := zo_b ev8
      obtain rfl := zv_r_e u9v
      refine zw_get S hK hw zk_10 (k := 9) (by decide) rfl zm_1097 (Or.inl rfl) u9e zd_X10_noRow_33 ?_
      refine lv_iload_n hx hb zd_X10_noRow_36 rfl (lv_at hl 1 rfl) ?_
      replace hf := zo_b hf; obtain ⟨a10, na10, hf⟩ := hf
      refine W.eq (g2 := F0 m 37 ls [.int (x1), va_rf ((some a10))]) (by rw [na10] <;> rfl) ?_
      replace hf := zo_b hf; obtain ⟨v11, ev11, hf⟩ := hf
      refine zw_iald S hK hw ev11 zd_X10_noRow_37 ?_
      refine lv_if_ge (tgt := 46) hx hb zd_X10_noRow_38 (by decide) (fun c12 => ?_) (fun c12 => ?_)
      · replace hf := zo_t c12 hf
        refine lv_iconst (v := 0) hx hb zd_X10_noRow_46 (by decide) ?_
        have hres := Option.some.inj hf; subst hres
        exact zw_iret (v := 0) (ty := .int) hx hb hr hlk rfl hw zd_X10_noRow_47 (Nat.le_refl 0) (Nat.le_refl 0)
      · replace hf := zo_f c12 hf
        refine lv_bipush (v := (-3)) hx hb zd_X10_noRow_41 (by decide) ?_
        refine lv_goto (tgt := 47) hx hb zd_X10_noRow_43 (by decide) ?_
        have hres := Option.some.inj hf; subst hres
        exact zw_iret (v := (-3)) (ty := .int) hx hb hr hlk rfl hw zd_X10_noRow_47 (Nat.le_refl 0) (Nat.le_refl 0)
    refine lv_if_lt (tgt := 32) hx hb zd_X10_noRow_18 (by decide) (fun c7 => ?_) (fun c7 => ?_)
    · replace hf := zo_t c7 hf
      exact k32h () _ _ _ hf hw (lv_sub hl [0, 1] rfl)
    · replace hf := zo_f c7 hf
      refine zl_aload_n hx hb zd_X10_noRow_21 rfl (lv_at hl 0 rfl) ?_
      refine lv_iload_n hx hb zd_X10_noRow_22 rfl (lv_at hl 1 rfl) ?_
      replace hf := zo_b hf; obtain ⟨r13, er13, hf⟩ := hf
      refine zw_callV (n := 1) (ci := 10) (q := zc_cl[10]) (As := [.int (x1)]) (rest := []) S hK hw (zt_X10_isRow l g h q x1 _ er13) zm_1231 zm_1233 zm_26 zq_X10_isRow zm_79 (by decide +kernel) ⟨Nat.le_of_ble_eq_true rfl, Nat.le_of_ble_eq_true rfl⟩ rfl rfl rfl (zi_X10_isRow er13) hl.1 rfl (by simp [zv_cat, zv_ci, zv_cj]) zd_X10_noRow_23 ⟨(Nat.le_refl 0), (Nat.le_refl 0)⟩ (fun H locs hw => ?_)
      replace hw : zc_W g h H locs := hw
      refine lv_if_ne (tgt := 32) hx hb zd_X10_noRow_26 (by decide) (fun c14 => ?_) (fun c14 => ?_)
      · replace hf := zo_f c14 hf
        exact k32h () _ _ _ hf hw (lv_sub hl [0, 1] rfl)
      · replace hf := zo_t c14 hf
        refine lv_bipush (v := (-2)) hx hb zd_X10_noRow_29 (by decide) ?_
        have hres := Option.some.inj hf; subst hres
        exact zw_iret (v := (-2)) (ty := .int) hx hb hr hlk rfl hw zd_X10_noRow_31 (Nat.le_refl 0) (Nat.le_refl 0)
  · replace hf := zo_t c2 hf
    refine lv_iconst (v := (-1)) hx hb zd_X10_noRow_10 (by decide) ?_
    have hres := Option.some.inj hf; subst hres
    exact zw_iret (v := (-1)) (ty := .int) hx hb hr hlk rfl hw zd_X10_noRow_11 (Nat.le_refl 0) (Nat.le_refl 0)
def zf_X10_set (h : zc_H) (q : Nat) (x1 : Int32) (x2 : Int32) (x3 : Int64) : Option (zc_H × Int32) :=
  if ¬ zf_is h q 10 = true then none else
  (zf_X10_noRow h q x1).bind fun r1 =>
  if 0 ≤ r1 then
    (zf_gr h q 10 10).bind fun v3 =>
    v3.bind fun a5 =>
    (zf_ai h a5 0 x1).bind fun v6 =>
    (zf_X10_within h x2 0 (v6 - 1)).bind fun r7 =>
    if r7 = 0 then
      (zf_X10_no h q (-5)).bind fun r20 =>
      some (r20.1, r20.2)
    else
    (zf_gr h q 10 9).bind fun v9 =>
    v9.bind fun a11 =>
    (zf_ai h a11 0 x1).bind fun v12 =>
    (zf_gr h q 10 11).bind fun v13 =>
    let k102 := fun (s102_0 : Int64) (s102_1 : Int32) (s102_2 : Option Nat) =>
      s102_2.bind fun a16 =>
      (zf_sj h a16 s102_1 s102_0).bind fun h17 =>
      some (h17, 1)
    if (v12 - 100) = 0 then
      k102 ((((((x3 : Int64).toInt32) : Int32).toInt8.toInt32) : Int32).toInt64) ((160 * x1) + x2) v13
    else
    if (v12 - 100) = 1 then
      k102 ((((((x3 : Int64).toInt32) : Int32).toInt16.toInt32) : Int32).toInt64) ((160 * x1) + x2) v13
    else
    if (v12 - 100) = 2 then
      k102 ((((x3 : Int64).toInt32) : Int32).toInt64) ((160 * x1) + x2) v13
    else
    k102 x3 ((160 * x1) + x2) v13
  else
  (zf_X10_no h q r1).bind fun r21 =>
  some (r21.1, r21.2)
abbrev zr_X10_set : Room := { frames := 2, cells := 0, slots := 0, locals := 43 }
theorem zi_X10_set {h : zc_H} {q : Nat} {x1 : Int32} {x2 : Int32} {x3 : Int64} {res : zc_H × Int32} (hf : zf_X10_set h q x1 x2 x3 = some res) : zf_is h q 10 = true := Decidable.not_not.mp (zo_n hf).1
set_option maxHeartbeats 4000000 in
set_option maxRecDepth 20000 in
theorem zt_X10_set (l : Launch) (g : zc_G) (h : zc_H) (q : Nat) (x1 : Int32) (x2 : Int32) (x3 : Int64) (res : zc_H × Int32) (hf : zf_X10_set h q x1 x2 x3 = some res) : zc_M l g yX10_set cX10_set 7 (some .int) zr_X10_set h [va_rf ((some q)), .int (x1), .int (x2), .long (x3)] res.1 (some (.int (res.2))) := by
  refine zc_M.of (by decide) (by simp [lg_sl, zv_cat, zv_ci, zv_cj]) ?_
  intro p e s m below meth c ls S hK hw hr hlk hnm hl
  replace S : CallFix p m c cX10_set 7 s [va_rf ((some q)), .int (x1), .int (x2), .long (x3)].toArray (zc_ws yX10_set cX10_set 7 (some .int)) RX10 := S
  have hx := S.1
  have hb := S.2.1
  replace hl : lv_has ls 7 [(0, va_rf ((some q))), (1, .int (x1)), (2, .int (x2)), (3, .long (x3))] := by simpa [lv_args, zv_cat, zv_ci, zv_cj] using hl
  generalize s.heap = H at hw ⊢
  obtain ⟨locs, hlocs⟩ : ∃ L : List Loc, L = [] := ⟨_, rfl⟩
  rw [← hlocs] at hw ⊢
  unfold zf_X10_set at hf
  obtain ⟨-, hf⟩ := zo_n hf
  refine zl_aload_n hx hb zd_X10_set_0 rfl (lv_at hl 0 rfl) ?_
  refine lv_iload_n hx hb zd_X10_set_1 rfl (lv_at hl 1 rfl) ?_
  replace hf := zo_b hf; obtain ⟨r1, er1, hf⟩ := hf
  refine zw_callV (n := 1) (ci := 10) (q := zc_cl[10]) (As := [.int (x1)]) (rest := []) S hK hw (zt_X10_noRow l g h q x1 _ er1) zm_1227 zm_1229 zm_25 zq_X10_noRow zm_79 (by decide +kernel) ⟨Nat.le_of_ble_eq_true rfl, Nat.le_of_ble_eq_true rfl⟩ rfl rfl rfl (zi_X10_noRow er1) hl.1 rfl (by simp [zv_cat, zv_ci, zv_cj]) zd_X10_set_2 ⟨(Nat.le_refl 0), (Nat.le_refl 0)⟩ (fun H locs hw => ?_)
  replace hw : zc_W g h H locs := hw
  refine lv_istore (i := 5) (lv' := [(5, .int (r1)), (0, va_rf ((some q))), (1, .int (x1)), (2, .int (x2)), (3, .long (x3))]) hx hb zd_X10_set_5 hl (by decide) rfl (fun ls hl => ?_)
  refine lv_iload hx hb zd_X10_set_7 (lv_at hl 0 rfl) ?_
  refine lv_if_ge (tgt := 19) hx hb zd_X10_set_9 (by decide) (fun c2 => ?_) (fun c2 => ?_)
  · replace hf := zo_t c2 hf
    refine lv_iload_n hx hb zd_X10_set_19 rfl (lv_at hl 3 rfl) ?_
    refine lv_iconst (v := 0) hx hb zd_X10_set_20 (by decide) ?_
    refine zl_aload_n hx hb zd_X10_set_21 rfl (lv_at hl 1 rfl) ?_
    replace hf := zo_b hf; obtain ⟨v3, ev3, hf⟩ := hf
    obtain ⟨u4, u4e, u4v⟩ := zo_b ev3
    obtain rfl := zv_r_e u4v
    refine zw_get S hK hw zk_10 (k := 10) (by decide) rfl zm_1098 (Or.inl rfl) u4e zd_X10_set_22 ?_
    refine lv_iload_n hx hb zd_X10_set_25 rfl (lv_at hl 2 rfl) ?_
    replace hf := zo_b hf; obtain ⟨a5, na5, hf⟩ := hf
    refine W.eq (g2 := F0 m 26 ls [.int (x1), va_rf ((some a5)), .int (0), .int (x2)]) (by rw [na5] <;> rfl) ?_
    replace hf := zo_b hf; obtain ⟨v6, ev6, hf⟩ := hf
    refine zw_iald S hK hw ev6 zd_X10_set_26 ?_
    refine lv_iconst (v := 1) hx hb zd_X10_set_27 (by decide) ?_
    refine lv_isub hx hb zd_X10_set_28 ?_
    replace hf := zo_b hf; obtain ⟨r7, er7, hf⟩ := hf
    refine zw_callS (n := 3) (As := [.int (x2), .int (0), .int ((v6 - 1))]) (rest := []) S hK hw (zt_X10_within l g h x2 0 (v6 - 1) _ er7) zm_1216 zm_1217 zq_X10_within zm_79 (by decide +kernel) ⟨Nat.le_of_ble_eq_true rfl, Nat.le_of_ble_eq_true rfl⟩ rfl hl.1 rfl (by simp [zv_cat, zv_ci, zv_cj]) zd_X10_set_29 ⟨(Nat.le_refl 0), (Nat.le_refl 0)⟩ (fun H locs hw => ?_)
    replace hw : zc_W g h H locs := hw
    refine lv_if_ne (tgt := 42) hx hb zd_X10_set_32 (by decide) (fun c8 => ?_) (fun c8 => ?_)
    · replace hf := zo_f c8 hf
      refine zl_aload_n hx hb zd_X10_set_42 rfl (lv_at hl 1 rfl) ?_
      replace hf := zo_b hf; obtain ⟨v9, ev9, hf⟩ := hf
      obtain ⟨u10, u10e, u10v⟩ := zo_b ev9
      obtain rfl := zv_r_e u10v
      refine zw_get S hK hw zk_10 (k := 9) (by decide) rfl zm_1097 (Or.inl rfl) u10e zd_X10_set_43 ?_
      refine lv_iload_n hx hb zd_X10_set_46 rfl (lv_at hl 2 rfl) ?_
      replace hf := zo_b hf; obtain ⟨a11, na11, hf⟩ := hf
      refine W.eq (g2 := F0 m 47 ls [.int (x1), va_rf ((some a11))]) (by rw [na11] <;> rfl) ?_
      replace hf := zo_b hf; obtain ⟨v12, ev12, hf⟩ := hf
      refine zw_iald S hK hw ev12 zd_X10_set_47 ?_
      refine lv_bipush (v := 100) hx hb zd_X10_set_48 (by decide) ?_
      refine lv_isub hx hb zd_X10_set_50 ?_
      refine lv_istore (i := 6) (lv' := [(6, .int ((v12 - 100))), (5, .int (r1)), (0, va_rf ((some q))), (1, .int (x1)), (2, .int (x2)), (3, .long (x3))]) hx hb zd_X10_set_51 hl (by decide) rfl (fun ls hl => ?_)
      refine zl_aload_n hx hb zd_X10_set_53 rfl (lv_at hl 2 rfl) ?_
      replace hf := zo_b hf; obtain ⟨v13, ev13, hf⟩ := hf
      obtain ⟨u14, u14e, u14v⟩ := zo_b ev13
      obtain rfl := zv_r_e u14v
      refine zw_get S hK hw zk_10 (k := 11) (by decide) rfl zm_1099 (Or.inl rfl) u14e zd_X10_set_54 ?_
      refine lv_sipush (v := 160) hx hb zd_X10_set_57 (by decide) ?_
      refine lv_iload_n hx hb zd_X10_set_60 rfl (lv_at hl 3 rfl) ?_
      refine lv_imul hx hb zd_X10_set_61 ?_
      refine lv_iload_n hx hb zd_X10_set_62 rfl (lv_at hl 4 rfl) ?_
      refine lv_iadd hx hb zd_X10_set_63 ?_
      refine lv_iload hx hb zd_X10_set_64 (lv_at hl 0 rfl) ?_
      have k102h : ∀ (s102_0 : Int64) (s102_1 : Int32) (s102_2 : Option Nat) (H : Heap) (locs : List Loc) (ls : Array Slot), (
          s102_2.bind fun a16 =>
          (zf_sj h a16 s102_1 s102_0).bind fun h17 =>
          some (h17, 1)
          ) = some res → zc_W g h H locs → lv_has ls 7 [] → W p l e zr_X10_set s m [va_rf ((some q)), .int (x1), .int (x2), .long (x3)].toArray below meth c H locs ((0 + 0) + 0) ((0 + 0) + 0) (zc_Q g below zr_X10_set (some (.int (res.2))) res.1 [va_rf ((some q)), .int (x1), .int (x2), .long (x3)] s) (F0 m 102 ls [.long (s102_0), .int (s102_1), va_rf (s102_2)]) := by
        intro s102_0 s102_1 s102_2 H locs ls hf hw hl
        replace hf := zo_b hf; obtain ⟨a16, na16, hf⟩ := hf
        refine W.eq (g2 := F0 m 102 ls [.long (s102_0), .int (s102_1), va_rf ((some a16))]) (by rw [na16] <;> rfl) ?_
        replace hf := zo_b hf; obtain ⟨h17, eh17, hf⟩ := hf
        refine zw_last S hK hw eh17 zd_X10_set_102 (fun H locs hw => ?_)
        refine lv_iconst (v := 1) hx hb zd_X10_set_103 (by decide) ?_
        have hres := Option.some.inj hf; subst hres
        exact zw_iret (v := 1) (ty := .int) hx hb hr hlk rfl hw zd_X10_set_104 (Nat.le_refl 0) (Nat.le_refl 0)
      refine lv_if_ne (tgt := 76) hx hb zd_X10_set_66 (by decide) (fun c15 => ?_) (fun c15 => ?_)
      · replace hf := zo_f c15 hf
        refine lv_iload hx hb zd_X10_set_76 (lv_at hl 0 rfl) ?_
        refine lv_iconst (v := 1) hx hb zd_X10_set_78 (by decide) ?_
        refine lv_icmp_ne (tgt := 89) hx hb zd_X10_set_79 (by decide) (fun c18 => ?_) (fun c18 => ?_)
        · replace hf := zo_f c18 hf
          refine lv_iload hx hb zd_X10_set_89 (lv_at hl 0 rfl) ?_
          refine lv_iconst (v := 2) hx hb zd_X10_set_91 (by decide) ?_
          refine lv_icmp_ne (tgt := 101) hx hb zd_X10_set_92 (by decide) (fun c19 => ?_) (fun c19 => ?_)
          · replace hf := zo_f c19 hf
            refine lv_lload_n hx hb zd_X10_set_101 rfl (lv_at hl 5 rfl) ?_
            exact k102h x3 ((160 * x1) + x2) v13 _ _ _ hf hw (lv_sub hl [] rfl)
          · replace hf := zo_t c19 hf
            refine lv_lload_n hx hb zd_X10_set_95 rfl (lv_at hl 5 rfl) ?_
            refine lv_l2i (v := ((x3 : Int64).toInt32)) hx hb zd_X10_set_96 rfl ?_
            refine lv_i2l (v := ((((x3 : Int64).toInt32) : Int32).toInt64)) hx hb zd_X10_set_97 rfl ?_
            refine lv_goto (tgt := 102) hx hb zd_X10_set_98 (by decide) ?_
            exact k102h ((((x3 : Int64).toInt32) : Int32).toInt64) ((160 * x1) + x2) v13 _ _ _ hf hw (lv_sub hl [] rfl)
        · replace hf := zo_t c18 hf
          refine lv_lload_n hx hb zd_X10_set_82 rfl (lv_at hl 5 rfl) ?_
          refine lv_l2i (v := ((x3 : Int64).toInt32)) hx hb zd_X10_set_83 rfl ?_
          refine lv_i2s (v := ((((x3 : Int64).toInt32) : Int32).toInt16.toInt32)) hx hb zd_X10_set_84 rfl ?_
          refine lv_i2l (v := ((((((x3 : Int64).toInt32) : Int32).toInt16.toInt32) : Int32).toInt64)) hx hb zd_X10_set_85 rfl ?_
          refine lv_goto (tgt := 102) hx hb zd_X10_set_86 (by decide) ?_
          exact k102h ((((((x3 : Int64).toInt32) : Int32).toInt16.toInt32) : Int32).toInt64) ((160 * x1) + x2) v13 _ _ _ hf hw (lv_sub hl [] rfl)
      · replace hf := zo_t c15 hf
        refine lv_lload_n hx hb zd_X10_set_69 rfl (lv_at hl 5 rfl) ?_
        refine lv_l2i (v := ((x3 : Int64).toInt32)) hx hb zd_X10_set_70 rfl ?_
        refine lv_i2b (v := ((((x3 : Int64).toInt32) : Int32).toInt8.toInt32)) hx hb zd_X10_set_71 rfl ?_
        refine lv_i2l (v := ((((((x3 : Int64).toInt32) : Int32).toInt8.toInt32) : Int32).toInt64)) hx hb zd_X10_set_72 rfl ?_
        refine lv_goto (tgt := 102) hx hb zd_X10_set_73 (by decide) ?_
        exact k102h ((((((x3 : Int64).toInt32) : Int32).toInt8.toInt32) : Int32).toInt64) ((160 * x1) + x2) v13 _ _ _ hf hw (lv_sub hl [] rfl)
    · replace hf := zo_t c8 hf
      refine zl_aload_n hx hb zd_X10_set_35 rfl (lv_at hl 1 rfl) ?_
      refine lv_bipush (v := (-5)) hx hb zd_X10_set_36 (by decide) ?_
      replace hf := zo_b hf; obtain ⟨r20, er20, hf⟩ := hf
      refine zw_callV (n := 1) (ci := 10) (q := zc_cl[10]) (As := [.int ((-5))]) (rest := []) S hK hw (zt_X10_no l g h q (-5) _ er20) zm_1219 zm_1221 zm_24 zq_X10_no zm_79 (by decide +kernel) ⟨Nat.le_of_ble_eq_true rfl, Nat.le_of_ble_eq_true rfl⟩ rfl rfl rfl (zi_X10_no er20) hl.1 rfl (by simp [zv_cat, zv_ci, zv_cj]) zd_X10_set_38 ⟨(Nat.le_refl 0), (Nat.le_refl 0)⟩ (fun H locs hw => ?_)
      replace hw : zc_W g r20.1 H locs := hw
      have hres := Option.some.inj hf; subst hres
      exact zw_iret (v := r20.2) (ty := .int) hx hb hr hlk rfl hw zd_X10_set_41 (Nat.le_refl 0) (Nat.le_refl 0)
  · replace hf := zo_f c2 hf
    refine zl_aload_n hx hb zd_X10_set_12 rfl (lv_at hl 1 rfl) ?_
    refine lv_iload hx hb zd_X10_set_13 (lv_at hl 0 rfl) ?_
    replace hf := zo_b hf; obtain ⟨r21, er21, hf⟩ := hf
    refine zw_callV (n := 1) (ci := 10) (q := zc_cl[10]) (As := [.int (r1)]) (rest := []) S hK hw (zt_X10_no l g h q r1 _ er21) zm_1219 zm_1221 zm_24 zq_X10_no zm_79 (by decide +kernel) ⟨Nat.le_of_ble_eq_true rfl, Nat.le_of_ble_eq_true rfl⟩ rfl rfl rfl (zi_X10_no er21) hl.1 rfl (by simp [zv_cat, zv_ci, zv_cj]) zd_X10_set_15 ⟨(Nat.le_refl 0), (Nat.le_refl 0)⟩ (fun H locs hw => ?_)
    replace hw : zc_W g r21.1 H locs := hw
    have hres := Option.some.inj hf; subst hres
    exact zw_iret (v := r21.2) (ty := .int) hx hb hr hlk rfl hw zd_X10_set_18 (Nat.le_refl 0) (Nat.le_refl 0)
def zf_X10_copy_L251 (q : Nat) (y1 : Int32) (y2 : Int32) (y3 : Int32) (y4 : Int32) (y5 : Int32) : Nat → zc_H → Int32 → Option (zc_H)
  | 0, _, _ => none
  | n + 1, h, y6 =>
    if y5 ≤ y6 then
      some h
    else
    (zf_gr h q 10 11).bind fun v46 =>
    (zf_gr h q 10 11).bind fun v48 =>
    v48.bind fun a50 =>
    (zf_aj h a50 (((160 * y1) + y3) + y6)).bind fun v51 =>
    v46.bind fun a52 =>
    (zf_sj h a52 (((160 * y2) + y4) + y6) v51).bind fun h53 =>
    zf_X10_copy_L251 q y1 y2 y3 y4 y5 n h53 (y6 + 1)
def zf_X10_copy_L203 (q : Nat) (y1 : Int32) (y2 : Int32) (y3 : Int32) (y4 : Int32) : Nat → zc_H → Int32 → Option (zc_H)
  | 0, _, _ => none
  | n + 1, h, y6 =>
    if y6 < 0 then
      some h
    else
    (zf_gr h q 10 11).bind fun v57 =>
    (zf_gr h q 10 11).bind fun v59 =>
    v59.bind fun a61 =>
    (zf_aj h a61 (((160 * y1) + y3) + y6)).bind fun v62 =>
    v57.bind fun a63 =>
    (zf_sj h a63 (((160 * y2) + y4) + y6) v62).bind fun h64 =>
    zf_X10_copy_L203 q y1 y2 y3 y4 n h64 (y6 + (-1))
def zf_X10_copy (h : zc_H) (q : Nat) (x1 : Int32) (x2 : Int32) (x3 : Int32) (x4 : Int32) (x5 : Int32) : Option (zc_H × Int32) :=
  if ¬ zf_is h q 10 = true then none else
  (zf_X10_within h x1 0 7).bind fun r1 =>
  let k20 := fun (_ : Unit) =>
    (zf_X10_no h q (-1)).bind fun r3 =>
    some (r3.1, r3.2)
  if r1 = 0 then
    k20 ()
  else
  (zf_X10_within h x2 0 7).bind fun r4 =>
  if r4 = 0 then
    k20 ()
  else
  (zf_gr h q 10 9).bind fun v6 =>
  v6.bind fun a8 =>
  (zf_ai h a8 0 x1).bind fun v9 =>
  let k91 := fun (_ : Unit) =>
    (zf_X10_no h q (-2)).bind fun r11 =>
    some (r11.1, r11.2)
  let k43 := fun (_ : Unit) =>
    (zf_gr h q 10 9).bind fun v12 =>
    v12.bind fun a14 =>
    (zf_ai h a14 0 x2).bind fun v15 =>
    let k60 := fun (_ : Unit) =>
      (zf_X10_isRow h q x1).bind fun r17 =>
      let k98 := fun (_ : Unit) =>
        (zf_gr h q 10 9).bind fun v19 =>
        v19.bind fun a21 =>
        (zf_ai h a21 0 x1).bind fun v22 =>
        let k116 := fun (_ : Unit) =>
          (zf_X10_no h q (-3)).bind fun r24 =>
          some (r24.1, r24.2)
        if v22 < 0 then
          k116 ()
        else
        (zf_gr h q 10 9).bind fun v25 =>
        v25.bind fun a27 =>
        (zf_ai h a27 0 x2).bind fun v28 =>
        if 0 ≤ v28 then
          if 0 ≤ x5 then
            let k179 := fun (_ : Unit) =>
              (zf_X10_no h q (-5)).bind fun r32 =>
              some (r32.1, r32.2)
            if x3 < 0 then
              k179 ()
            else
            if x4 < 0 then
              k179 ()
            else
            (zf_gr h q 10 10).bind fun v34 =>
            v34.bind fun a36 =>
            (zf_ai h a36 0 x1).bind fun v37 =>
            if 0 < (lg_cmp (((x3 : Int32).toInt64) + ((x5 : Int32).toInt64)) ((v37 : Int32).toInt64)) then
              k179 ()
            else
            (zf_gr h q 10 10).bind fun v39 =>
            v39.bind fun a41 =>
            (zf_ai h a41 0 x2).bind fun v42 =>
            if (lg_cmp (((x4 : Int32).toInt64) + ((x5 : Int32).toInt64)) ((v42 : Int32).toInt64)) ≤ 0 then
              let k248 := fun (_ : Unit) =>
                (zf_X10_copy_L251 q x1 x2 x3 x4 x5 2000 h 0).bind fun w54 =>
                some (w54, 1)
              if x1 = x2 then
                if x4 ≤ x3 then
                  k248 ()
                else
                (zf_X10_copy_L203 q x1 x2 x3 x4 2000 h (x5 - 1)).bind fun w65 =>
                some (w65, 1)
              else
              k248 ()
            else
            k179 ()
          else
          (zf_X10_no h q (-4)).bind fun r66 =>
          some (r66.1, r66.2)
        else
        k116 ()
      if r17 = 0 then
        k98 ()
      else
      (zf_X10_isRow h q x2).bind fun r67 =>
      if r67 = 0 then
        k98 ()
      else
      (zf_gr h q 10 9).bind fun v69 =>
      v69.bind fun a71 =>
      (zf_ai h a71 0 x1).bind fun v72 =>
      (zf_gr h q 10 9).bind fun v73 =>
      v73.bind fun a75 =>
      (zf_ai h a75 0 x2).bind fun v76 =>
      if v72 = v76 then
        k98 ()
      else
      k91 ()
    if v15 < 0 then
      k60 ()
    else
    (zf_X10_isRow h q x2).bind fun r78 =>
    if r78 = 0 then
      k91 ()
    else
    k60 ()
  if v9 < 0 then
    k43 ()
  else
  (zf_X10_isRow h q x1).bind fun r80 =>
  if r80 = 0 then
    k91 ()
  else
  k43 ()
abbrev zr_X10_copy : Room := { frames := 1, cells := 0, slots := 0, locals := 22 }
theorem zi_X10_copy {h : zc_H} {q : Nat} {x1 : Int32} {x2 : Int32} {x3 : Int32} {x4 : Int32} {x5 : Int32} {res : zc_H × Int32} (hf : zf_X10_copy h q x1 x2 x3 x4 x5 = some res) : zf_is h q 10 = true := Decidable.not_not.mp (zo_n hf).1
set_option maxHeartbeats 4000000 in
set_option maxRecDepth 20000 in
theorem zt_X10_copy (l : Launch) (g : zc_G) (h : zc_H) (q : Nat) (x1 : Int32) (x2 : Int32) (x3 : Int32) (x4 : Int32) (x5 : Int32) (res : zc_H × Int32) (hf : zf_X10_copy h q x1 x2 x3 x4 x5 = some res) : zc_M l g yX10_copy cX10_copy 7 (some .int) zr_X10_copy h [va_rf ((some q)), .int (x1), .int (x2), .int (x3), .int (x4), .int (x5)] res.1 (some (.int (res.2))) := by
  refine zc_M.of (by decide) (by simp [lg_sl, zv_cat, zv_ci, zv_cj]) ?_
  intro p e s m below meth c ls S hK hw hr hlk hnm hl
  replace S : CallFix p m c cX10_copy 7 s [va_rf ((some q)), .int (x1), .int (x2), .int (x3), .int (x4), .int (x5)].toArray (zc_ws yX10_copy cX10_copy 7 (some .int)) RX10 := S
  have hx := S.1
  have hb := S.2.1
  replace hl : lv_has ls 7 [(0, va_rf ((some q))), (1, .int (x1)), (2, .int (x2)), (3, .int (x3)), (4, .int (x4)), (5, .int (x5))] := by simpa [lv_args, zv_cat, zv_ci, zv_cj] using hl
  generalize s.heap = H at hw ⊢
  obtain ⟨locs, hlocs⟩ : ∃ L : List Loc, L = [] := ⟨_, rfl⟩
  rw [← hlocs] at hw ⊢
  have L251 : ∀ (y1 : Int32) (y2 : Int32) (y3 : Int32) (y4 : Int32) (y5 : Int32) (n : Nat) (h : zc_H) (y6 : Int32) (w : zc_H) (H : Heap) (locs : List Loc) (ls : Array Slot), zf_X10_copy_L251 q y1 y2 y3 y4 y5 n h y6 = some w → zc_W g h H locs → lv_has ls 7 [(0, va_rf ((some q))), (1, .int (y1)), (2, .int (y2)), (3, .int (y3)), (4, .int (y4)), (5, .int (y5)), (6, .int (y6))] → (∀ (H : Heap) (locs : List Loc) (ls : Array Slot), zc_W g w H locs → lv_has ls 7 [] → W p l e zr_X10_copy s m [va_rf ((some q)), .int (x1), .int (x2), .int (x3), .int (x4), .int (x5)].toArray below meth c H locs 0 0 (zc_Q g below zr_X10_copy (some (.int (res.2))) res.1 [va_rf ((some q)), .int (x1), .int (x2), .int (x3), .int (x4), .int (x5)] s) (F0 m 295 ls [])) → W p l e zr_X10_copy s m [va_rf ((some q)), .int (x1), .int (x2), .int (x3), .int (x4), .int (x5)].toArray below meth c H locs 0 0 (zc_Q g below zr_X10_copy (some (.int (res.2))) res.1 [va_rf ((some q)), .int (x1), .int (x2), .int (x3), .int (x4), .int (x5)] s) (F0 m 251 ls []) := by
    intro y1 y2 y3 y4 y5 n
    induction n with
    | zero =>
      intro h y6 w H locs ls hf
      cases hf
    | succ n ih =>
      intro h y6 w H locs ls hf hw hl  kk
      unfold zf_X10_copy_L251 at hf
      refine lv_iload hx hb zd_X10_copy_251 (lv_at hl 6 rfl) ?_
      refine lv_iload hx hb zd_X10_copy_253 (lv_at hl 5 rfl) ?_
      refine lv_icmp_ge (tgt := 295) hx hb zd_X10_copy_255 (by decide) (fun c45 => ?_) (fun c45 => ?_)
      · replace hf := zo_t c45 hf
        have hres := Option.some.inj hf; subst hres
        exact kk _ _ _ hw (lv_sub hl [] rfl)
      · replace hf := zo_f c45 hf
        refine zl_aload_n hx hb zd_X10_copy_258 rfl (lv_at hl 0 rfl) ?_
        replace hf := zo_b hf; obtain ⟨v46, ev46, hf⟩ := hf
        obtain ⟨u47, u47e, u47v⟩ := zo_b ev46
        obtain rfl := zv_r_e u47v
        refine zw_get S hK hw zk_10 (k := 11) (by decide) rfl zm_1099 (Or.inl rfl) u47e zd_X10_copy_259 ?_
        refine lv_sipush (v := 160) hx hb zd_X10_copy_262 (by decide) ?_
        refine lv_iload_n hx hb zd_X10_copy_265 rfl (lv_at hl 2 rfl) ?_
        refine lv_imul hx hb zd_X10_copy_266 ?_
        refine lv_iload hx hb zd_X10_copy_267 (lv_at hl 4 rfl) ?_
        refine lv_iadd hx hb zd_X10_copy_269 ?_
        refine lv_iload hx hb zd_X10_copy_270 (lv_at hl 6 rfl) ?_
        refine lv_iadd hx hb zd_X10_copy_272 ?_
        refine zl_aload_n hx hb zd_X10_copy_273 rfl (lv_at hl 0 rfl) ?_
        replace hf := zo_b hf; obtain ⟨v48, ev48, hf⟩ := hf
        obtain ⟨u49, u49e, u49v⟩ := zo_b ev48
        obtain rfl := zv_r_e u49v
        refine zw_get S hK hw zk_10 (k := 11) (by decide) rfl zm_1099 (Or.inl rfl) u49e zd_X10_copy_274 ?_
        refine lv_sipush (v := 160) hx hb zd_X10_copy_277 (by decide) ?_
        refine lv_iload_n hx hb zd_X10_copy_280 rfl (lv_at hl 1 rfl) ?_
        refine lv_imul hx hb zd_X10_copy_281 ?_
        refine lv_iload_n hx hb zd_X10_copy_282 rfl (lv_at hl 3 rfl) ?_
        refine lv_iadd hx hb zd_X10_copy_283 ?_
        refine lv_iload hx hb zd_X10_copy_284 (lv_at hl 6 rfl) ?_
        refine lv_iadd hx hb zd_X10_copy_286 ?_
        replace hf := zo_b hf; obtain ⟨a50, na50, hf⟩ := hf
        refine W.eq (g2 := F0 m 287 ls [.int ((((160 * y1) + y3) + y6)), va_rf ((some a50)), .int ((((160 * y2) + y4) + y6)), va_rf (v46)]) (by rw [na50] <;> rfl) ?_
        replace hf := zo_b hf; obtain ⟨v51, ev51, hf⟩ := hf
        refine zw_lald S hK hw ev51 zd_X10_copy_287 ?_
        replace hf := zo_b hf; obtain ⟨a52, na52, hf⟩ := hf
        refine W.eq (g2 := F0 m 288 ls [.long (v51), .int ((((160 * y2) + y4) + y6)), va_rf ((some a52))]) (by rw [na52] <;> rfl) ?_
        replace hf := zo_b hf; obtain ⟨h53, eh53, hf⟩ := hf
        refine zw_last S hK hw eh53 zd_X10_copy_288 (fun H locs hw => ?_)
        refine lv_iinc (i := 6) (v := (y6 + 1)) (lv' := [(6, .int ((y6 + 1))), (0, va_rf ((some q))), (1, .int (y1)), (2, .int (y2)), (3, .int (y3)), (4, .int (y4)), (5, .int (y5))]) hx hb zd_X10_copy_289 hl (k := 6) rfl (congrArg (_ + ·) (by decide)) (by decide) rfl (fun ls hl => ?_)
        refine lv_goto (tgt := 251) hx hb zd_X10_copy_292 (by decide) ?_
        exact ih h53 (y6 + 1) _ _ _ _ hf hw (lv_sub hl [1, 2, 3, 4, 5, 6, 0] rfl) kk
  have L203 : ∀ (y1 : Int32) (y2 : Int32) (y3 : Int32) (y4 : Int32) (n : Nat) (h : zc_H) (y6 : Int32) (w : zc_H) (H : Heap) (locs : List Loc) (ls : Array Slot), zf_X10_copy_L203 q y1 y2 y3 y4 n h y6 = some w → zc_W g h H locs → lv_has ls 7 [(0, va_rf ((some q))), (1, .int (y1)), (2, .int (y2)), (3, .int (y3)), (4, .int (y4)), (6, .int (y6))] → (∀ (H : Heap) (locs : List Loc) (ls : Array Slot), zc_W g w H locs → lv_has ls 7 [] → W p l e zr_X10_copy s m [va_rf ((some q)), .int (x1), .int (x2), .int (x3), .int (x4), .int (x5)].toArray below meth c H locs 0 0 (zc_Q g below zr_X10_copy (some (.int (res.2))) res.1 [va_rf ((some q)), .int (x1), .int (x2), .int (x3), .int (x4), .int (x5)] s) (F0 m 245 ls [])) → W p l e zr_X10_copy s m [va_rf ((some q)), .int (x1), .int (x2), .int (x3), .int (x4), .int (x5)].toArray below meth c H locs 0 0 (zc_Q g below zr_X10_copy (some (.int (res.2))) res.1 [va_rf ((some q)), .int (x1), .int (x2), .int (x3), .int (x4), .int (x5)] s) (F0 m 203 ls []) := by
    intro y1 y2 y3 y4 n
    induction n with
    | zero =>
      intro h y6 w H locs ls hf
      cases hf
    | succ n ih =>
      intro h y6 w H locs ls hf hw hl  kk
      unfold zf_X10_copy_L203 at hf
      refine lv_iload hx hb zd_X10_copy_203 (lv_at hl 5 rfl) ?_
      refine lv_if_lt (tgt := 245) hx hb zd_X10_copy_205 (by decide) (fun c56 => ?_) (fun c56 => ?_)
      · replace hf := zo_t c56 hf
        have hres := Option.some.inj hf; subst hres
        exact kk _ _ _ hw (lv_sub hl [] rfl)
      · replace hf := zo_f c56 hf
        refine zl_aload_n hx hb zd_X10_copy_208 rfl (lv_at hl 0 rfl) ?_
        replace hf := zo_b hf; obtain ⟨v57, ev57, hf⟩ := hf
        obtain ⟨u58, u58e, u58v⟩ := zo_b ev57
        obtain rfl := zv_r_e u58v
        refine zw_get S hK hw zk_10 (k := 11) (by decide) rfl zm_1099 (Or.inl rfl) u58e zd_X10_copy_209 ?_
        refine lv_sipush (v := 160) hx hb zd_X10_copy_212 (by decide) ?_
        refine lv_iload_n hx hb zd_X10_copy_215 rfl (lv_at hl 2 rfl) ?_
        refine lv_imul hx hb zd_X10_copy_216 ?_
        refine lv_iload hx hb zd_X10_copy_217 (lv_at hl 4 rfl) ?_
        refine lv_iadd hx hb zd_X10_copy_219 ?_
        refine lv_iload hx hb zd_X10_copy_220 (lv_at hl 5 rfl) ?_
        refine lv_iadd hx hb zd_X10_copy_222 ?_
        refine zl_aload_n hx hb zd_X10_copy_223 rfl (lv_at hl 0 rfl) ?_
        replace hf := zo_b hf; obtain ⟨v59, ev59, hf⟩ := hf
        obtain ⟨u60, u60e, u60v⟩ := zo_b ev59
        obtain rfl := zv_r_e u60v
        refine zw_get S hK hw zk_10 (k := 11) (by decide) rfl zm_1099 (Or.inl rfl) u60e zd_X10_copy_224 ?_
        refine lv_sipush (v := 160) hx hb zd_X10_copy_227 (by decide) ?_
        refine lv_iload_n hx hb zd_X10_copy_230 rfl (lv_at hl 1 rfl) ?_
        refine lv_imul hx hb zd_X10_copy_231 ?_
        refine lv_iload_n hx hb zd_X10_copy_232 rfl (lv_at hl 3 rfl) ?_
        refine lv_iadd hx hb zd_X10_copy_233 ?_
        refine lv_iload hx hb zd_X10_copy_234 (lv_at hl 5 rfl) ?_
        refine lv_iadd hx hb zd_X10_copy_236 ?_
        replace hf := zo_b hf; obtain ⟨a61, na61, hf⟩ := hf
        refine W.eq (g2 := F0 m 237 ls [.int ((((160 * y1) + y3) + y6)), va_rf ((some a61)), .int ((((160 * y2) + y4) + y6)), va_rf (v57)]) (by rw [na61] <;> rfl) ?_
        replace hf := zo_b hf; obtain ⟨v62, ev62, hf⟩ := hf
        refine zw_lald S hK hw ev62 zd_X10_copy_237 ?_
        replace hf := zo_b hf; obtain ⟨a63, na63, hf⟩ := hf
        refine W.eq (g2 := F0 m 238 ls [.long (v62), .int ((((160 * y2) + y4) + y6)), va_rf ((some a63))]) (by rw [na63] <;> rfl) ?_
        replace hf := zo_b hf; obtain ⟨h64, eh64, hf⟩ := hf
        refine zw_last S hK hw eh64 zd_X10_copy_238 (fun H locs hw => ?_)
        refine lv_iinc (i := 6) (v := (y6 + (-1))) (lv' := [(6, .int ((y6 + (-1)))), (0, va_rf ((some q))), (1, .int (y1)), (2, .int (y2)), (3, .int (y3)), (4, .int (y4))]) hx hb zd_X10_copy_239 hl (k := 5) rfl (congrArg (_ + ·) (by decide)) (by decide) rfl (fun ls hl => ?_)
        refine lv_goto (tgt := 203) hx hb zd_X10_copy_242 (by decide) ?_
        exact ih h64 (y6 + (-1)) _ _ _ _ hf hw (lv_sub hl [1, 2, 3, 4, 5, 0] rfl) kk
  unfold zf_X10_copy at hf
  obtain ⟨-, hf⟩ := zo_n hf
  refine lv_iload_n hx hb zd_X10_copy_0 rfl (lv_at hl 1 rfl) ?_
  refine lv_iconst (v := 0) hx hb zd_X10_copy_1 (by decide) ?_
  refine lv_bipush (v := 7) hx hb zd_X10_copy_2 (by decide) ?_
  replace hf := zo_b hf; obtain ⟨r1, er1, hf⟩ := hf
  refine zw_callS (n := 3) (As := [.int (x1), .int (0), .int (7)]) (rest := []) S hK hw (zt_X10_within l g h x1 0 7 _ er1) zm_1216 zm_1217 zq_X10_within zm_79 (by decide +kernel) ⟨Nat.le_of_ble_eq_true rfl, Nat.le_of_ble_eq_true rfl⟩ rfl hl.1 rfl (by simp [zv_cat, zv_ci, zv_cj]) zd_X10_copy_4 ⟨(Nat.le_refl 0), (Nat.le_refl 0)⟩ (fun H locs hw => ?_)
  replace hw : zc_W g h H locs := hw
  have k20h : ∀ (_ : Unit) (H : Heap) (locs : List Loc) (ls : Array Slot), (
      (zf_X10_no h q (-1)).bind fun r3 =>
      some (r3.1, r3.2)
      ) = some res → zc_W g h H locs → lv_has ls 7 [(0, va_rf ((some q)))] → W p l e zr_X10_copy s m [va_rf ((some q)), .int (x1), .int (x2), .int (x3), .int (x4), .int (x5)].toArray below meth c H locs (0 + 0) (0 + 0) (zc_Q g below zr_X10_copy (some (.int (res.2))) res.1 [va_rf ((some q)), .int (x1), .int (x2), .int (x3), .int (x4), .int (x5)] s) (F0 m 20 ls []) := by
    intro _ H locs ls hf hw hl
    refine zl_aload_n hx hb zd_X10_copy_20 rfl (lv_at hl 0 rfl) ?_
    refine lv_iconst (v := (-1)) hx hb zd_X10_copy_21 (by decide) ?_
    replace hf := zo_b hf; obtain ⟨r3, er3, hf⟩ := hf
    refine zw_callV (n := 1) (ci := 10) (q := zc_cl[10]) (As := [.int ((-1))]) (rest := []) S hK hw (zt_X10_no l g h q (-1) _ er3) zm_1219 zm_1221 zm_24 zq_X10_no zm_79 (by decide +kernel) ⟨Nat.le_of_ble_eq_true rfl, Nat.le_of_ble_eq_true rfl⟩ rfl rfl rfl (zi_X10_no er3) hl.1 rfl (by simp [zv_cat, zv_ci, zv_cj]) zd_X10_copy_22 ⟨(Nat.le_refl 0), (Nat.le_refl 0)⟩ (fun H locs hw => ?_)
    replace hw : zc_W g r3.1 H locs := hw
    have hres := Option.some.inj hf; subst hres
    exact zw_iret (v := r3.2) (ty := .int) hx hb hr hlk rfl hw zd_X10_copy_25 (Nat.le_refl 0) (Nat.le_refl 0)
  refine lv_if_eq (tgt := 20) hx hb zd_X10_copy_7 (by decide) (fun c2 => ?_) (fun c2 => ?_)
  · replace hf := zo_t c2 hf
    exact k20h () _ _ _ hf hw (lv_sub hl [0] rfl)
  · replace hf := zo_f c2 hf
    refine lv_iload_n hx hb zd_X10_copy_10 rfl (lv_at hl 2 rfl) ?_
    refine lv_iconst (v := 0) hx hb zd_X10_copy_11 (by decide) ?_
    refine lv_bipush (v := 7) hx hb zd_X10_copy_12 (by decide) ?_
    replace hf := zo_b hf; obtain ⟨r4, er4, hf⟩ := hf
    refine zw_callS (n := 3) (As := [.int (x2), .int (0), .int (7)]) (rest := []) S hK hw (zt_X10_within l g h x2 0 7 _ er4) zm_1216 zm_1217 zq_X10_within zm_79 (by decide +kernel) ⟨Nat.le_of_ble_eq_true rfl, Nat.le_of_ble_eq_true rfl⟩ rfl hl.1 rfl (by simp [zv_cat, zv_ci, zv_cj]) zd_X10_copy_14 ⟨(Nat.le_refl 0), (Nat.le_refl 0)⟩ (fun H locs hw => ?_)
    replace hw : zc_W g h H locs := hw
    refine lv_if_ne (tgt := 26) hx hb zd_X10_copy_17 (by decide) (fun c5 => ?_) (fun c5 => ?_)
    · replace hf := zo_f c5 hf
      refine zl_aload_n hx hb zd_X10_copy_26 rfl (lv_at hl 0 rfl) ?_
      replace hf := zo_b hf; obtain ⟨v6, ev6, hf⟩ := hf
      obtain ⟨u7, u7e, u7v⟩ := zo_b ev6
      obtain rfl := zv_r_e u7v
      refine zw_get S hK hw zk_10 (k := 9) (by decide) rfl zm_1097 (Or.inl rfl) u7e zd_X10_copy_27 ?_
      refine lv_iload_n hx hb zd_X10_copy_30 rfl (lv_at hl 1 rfl) ?_
      replace hf := zo_b hf; obtain ⟨a8, na8, hf⟩ := hf
      refine W.eq (g2 := F0 m 31 ls [.int (x1), va_rf ((some a8))]) (by rw [na8] <;> rfl) ?_
      replace hf := zo_b hf; obtain ⟨v9, ev9, hf⟩ := hf
      refine zw_iald S hK hw ev9 zd_X10_copy_31 ?_
      have k91h : ∀ (_ : Unit) (H : Heap) (locs : List Loc) (ls : Array Slot), (
          (zf_X10_no h q (-2)).bind fun r11 =>
          some (r11.1, r11.2)
          ) = some res → zc_W g h H locs → lv_has ls 7 [(0, va_rf ((some q)))] → W p l e zr_X10_copy s m [va_rf ((some q)), .int (x1), .int (x2), .int (x3), .int (x4), .int (x5)].toArray below meth c H locs ((0 + 0) + 0) ((0 + 0) + 0) (zc_Q g below zr_X10_copy (some (.int (res.2))) res.1 [va_rf ((some q)), .int (x1), .int (x2), .int (x3), .int (x4), .int (x5)] s) (F0 m 91 ls []) := by
        intro _ H locs ls hf hw hl
        refine zl_aload_n hx hb zd_X10_copy_91 rfl (lv_at hl 0 rfl) ?_
        refine lv_bipush (v := (-2)) hx hb zd_X10_copy_92 (by decide) ?_
        replace hf := zo_b hf; obtain ⟨r11, er11, hf⟩ := hf
        refine zw_callV (n := 1) (ci := 10) (q := zc_cl[10]) (As := [.int ((-2))]) (rest := []) S hK hw (zt_X10_no l g h q (-2) _ er11) zm_1219 zm_1221 zm_24 zq_X10_no zm_79 (by decide +kernel) ⟨Nat.le_of_ble_eq_true rfl, Nat.le_of_ble_eq_true rfl⟩ rfl rfl rfl (zi_X10_no er11) hl.1 rfl (by simp [zv_cat, zv_ci, zv_cj]) zd_X10_copy_94 ⟨(Nat.le_refl 0), (Nat.le_refl 0)⟩ (fun H locs hw => ?_)
        replace hw : zc_W g r11.1 H locs := hw
        have hres := Option.some.inj hf; subst hres
        exact zw_iret (v := r11.2) (ty := .int) hx hb hr hlk rfl hw zd_X10_copy_97 (Nat.le_refl 0) (Nat.le_refl 0)
      have k43h : ∀ (_ : Unit) (H : Heap) (locs : List Loc) (ls : Array Slot), (
          let k91 := fun (_ : Unit) =>
            (zf_X10_no h q (-2)).bind fun r11 =>
            some (r11.1, r11.2)
          (zf_gr h q 10 9).bind fun v12 =>
          v12.bind fun a14 =>
          (zf_ai h a14 0 x2).bind fun v15 =>
          let k60 := fun (_ : Unit) =>
            (zf_X10_isRow h q x1).bind fun r17 =>
            let k98 := fun (_ : Unit) =>
              (zf_gr h q 10 9).bind fun v19 =>
              v19.bind fun a21 =>
              (zf_ai h a21 0 x1).bind fun v22 =>
              let k116 := fun (_ : Unit) =>
                (zf_X10_no h q (-3)).bind fun r24 =>
                some (r24.1, r24.2)
              if v22 < 0 then
                k116 ()
              else
              (zf_gr h q 10 9).bind fun v25 =>
              v25.bind fun a27 =>
              (zf_ai h a27 0 x2).bind fun v28 =>
              if 0 ≤ v28 then
                if 0 ≤ x5 then
                  let k179 := fun (_ : Unit) =>
                    (zf_X10_no h q (-5)).bind fun r32 =>
                    some (r32.1, r32.2)
                  if x3 < 0 then
                    k179 ()
                  else
                  if x4 < 0 then
                    k179 ()
                  else
                  (zf_gr h q 10 10).bind fun v34 =>
                  v34.bind fun a36 =>
                  (zf_ai h a36 0 x1).bind fun v37 =>
                  if 0 < (lg_cmp (((x3 : Int32).toInt64) + ((x5 : Int32).toInt64)) ((v37 : Int32).toInt64)) then
                    k179 ()
                  else
                  (zf_gr h q 10 10).bind fun v39 =>
                  v39.bind fun a41 =>
                  (zf_ai h a41 0 x2).bind fun v42 =>
                  if (lg_cmp (((x4 : Int32).toInt64) + ((x5 : Int32).toInt64)) ((v42 : Int32).toInt64)) ≤ 0 then
                    let k248 := fun (_ : Unit) =>
                      (zf_X10_copy_L251 q x1 x2 x3 x4 x5 2000 h 0).bind fun w54 =>
                      some (w54, 1)
                    if x1 = x2 then
                      if x4 ≤ x3 then
                        k248 ()
                      else
                      (zf_X10_copy_L203 q x1 x2 x3 x4 2000 h (x5 - 1)).bind fun w65 =>
                      some (w65, 1)
                    else
                    k248 ()
                  else
                  k179 ()
                else
                (zf_X10_no h q (-4)).bind fun r66 =>
                some (r66.1, r66.2)
              else
              k116 ()
            if r17 = 0 then
              k98 ()
            else
            (zf_X10_isRow h q x2).bind fun r67 =>
            if r67 = 0 then
              k98 ()
            else
            (zf_gr h q 10 9).bind fun v69 =>
            v69.bind fun a71 =>
            (zf_ai h a71 0 x1).bind fun v72 =>
            (zf_gr h q 10 9).bind fun v73 =>
            v73.bind fun a75 =>
            (zf_ai h a75 0 x2).bind fun v76 =>
            if v72 = v76 then
              k98 ()
            else
            k91 ()
          if v15 < 0 then
            k60 ()
          else
          (zf_X10_isRow h q x2).bind fun r78 =>
          if r78 = 0 then
            k91 ()
          else
          k60 ()
          ) = some res → zc_W g h H locs → lv_has ls 7 [(0, va_rf ((some q))), (1, .int (x1)), (2, .int (x2)), (3, .int (x3)), (4, .int (x4)), (5, .int (x5))] → W p l e zr_X10_copy s m [va_rf ((some q)), .int (x1), .int (x2), .int (x3), .int (x4), .int (x5)].toArray below meth c H locs ((0 + 0) + 0) ((0 + 0) + 0) (zc_Q g below zr_X10_copy (some (.int (res.2))) res.1 [va_rf ((some q)), .int (x1), .int (x2), .int (x3), .int (x4), .int (x5)] s) (F0 m 43 ls []) := by
        intro _ H locs ls hf hw hl
        refine zl_aload_n hx hb zd_X10_copy_43 rfl (lv_at hl 0 rfl) ?_
        replace hf := zo_b hf; obtain ⟨v12, ev12, hf⟩ := hf
        obtain ⟨u13, u13e, u13v⟩ := zo_b ev12
        obtain rfl := zv_r_e u13v
        refine zw_get S hK hw zk_10 (k := 9) (by decide) rfl zm_1097 (Or.inl rfl) u13e zd_X10_copy_44 ?_
        refine lv_iload_n hx hb zd_X10_copy_47 rfl (lv_at hl 2 rfl) ?_
        replace hf := zo_b hf; obtain ⟨a14, na14, hf⟩ := hf
        refine W.eq (g2 := F0 m 48 ls [.int (x2), va_rf ((some a14))]) (by rw [na14] <;> rfl) ?_
        replace hf := zo_b hf; obtain ⟨v15, ev15, hf⟩ := hf
        refine zw_iald S hK hw ev15 zd_X10_copy_48 ?_
        have k60h : ∀ (_ : Unit) (H : Heap) (locs : List Loc) (ls : Array Slot), (
            let k91 := fun (_ : Unit) =>
              (zf_X10_no h q (-2)).bind fun r11 =>
              some (r11.1, r11.2)
            (zf_X10_isRow h q x1).bind fun r17 =>
            let k98 := fun (_ : Unit) =>
              (zf_gr h q 10 9).bind fun v19 =>
              v19.bind fun a21 =>
              (zf_ai h a21 0 x1).bind fun v22 =>
              let k116 := fun (_ : Unit) =>
                (zf_X10_no h q (-3)).bind fun r24 =>
                some (r24.1, r24.2)
              if v22 < 0 then
                k116 ()
              else
              (zf_gr h q 10 9).bind fun v25 =>
              v25.bind fun a27 =>
              (zf_ai h a27 0 x2).bind fun v28 =>
              if 0 ≤ v28 then
                if 0 ≤ x5 then
                  let k179 := fun (_ : Unit) =>
                    (zf_X10_no h q (-5)).bind fun r32 =>
                    some (r32.1, r32.2)
                  if x3 < 0 then
                    k179 ()
                  else
                  if x4 < 0 then
                    k179 ()
                  else
                  (zf_gr h q 10 10).bind fun v34 =>
                  v34.bind fun a36 =>
                  (zf_ai h a36 0 x1).bind fun v37 =>
                  if 0 < (lg_cmp (((x3 : Int32).toInt64) + ((x5 : Int32).toInt64)) ((v37 : Int32).toInt64)) then
                    k179 ()
                  else
                  (zf_gr h q 10 10).bind fun v39 =>
                  v39.bind fun a41 =>
                  (zf_ai h a41 0 x2).bind fun v42 =>
                  if (lg_cmp (((x4 : Int32).toInt64) + ((x5 : Int32).toInt64)) ((v42 : Int32).toInt64)) ≤ 0 then
                    let k248 := fun (_ : Unit) =>
                      (zf_X10_copy_L251 q x1 x2 x3 x4 x5 2000 h 0).bind fun w54 =>
                      some (w54, 1)
                    if x1 = x2 then
                      if x4 ≤ x3 then
                        k248 ()
                      else
                      (zf_X10_copy_L203 q x1 x2 x3 x4 2000 h (x5 - 1)).bind fun w65 =>
                      some (w65, 1)
                    else
                    k248 ()
                  else
                  k179 ()
                else
                (zf_X10_no h q (-4)).bind fun r66 =>
                some (r66.1, r66.2)
              else
              k116 ()
            if r17 = 0 then
              k98 ()
            else
            (zf_X10_isRow h q x2).bind fun r67 =>
            if r67 = 0 then
              k98 ()
            else
            (zf_gr h q 10 9).bind fun v69 =>
            v69.bind fun a71 =>
            (zf_ai h a71 0 x1).bind fun v72 =>
            (zf_gr h q 10 9).bind fun v73 =>
            v73.bind fun a75 =>
            (zf_ai h a75 0 x2).bind fun v76 =>
            if v72 = v76 then
              k98 ()
            else
            k91 ()
            ) = some res → zc_W g h H locs → lv_has ls 7 [(0, va_rf ((some q))), (1, .int (x1)), (2, .int (x2)), (3, .int (x3)), (4, .int (x4)), (5, .int (x5))] → W p l e zr_X10_copy s m [va_rf ((some q)), .int (x1), .int (x2), .int (x3), .int (x4), .int (x5)].toArray below meth c H locs ((0 + 0) + 0) ((0 + 0) + 0) (zc_Q g below zr_X10_copy (some (.int (res.2))) res.1 [va_rf ((some q)), .int (x1), .int (x2), .int (x3), .int (x4), .int (x5)] s) (F0 m 60 ls []) := by
          intro _ H locs ls hf hw hl
          refine zl_aload_n hx hb zd_X10_copy_60 rfl (lv_at hl 0 rfl) ?_
          refine lv_iload_n hx hb zd_X10_copy_61 rfl (lv_at hl 1 rfl) ?_
          replace hf := zo_b hf; obtain ⟨r17, er17, hf⟩ := hf
          refine zw_callV (n := 1) (ci := 10) (q := zc_cl[10]) (As := [.int (x1)]) (rest := []) S hK hw (zt_X10_isRow l g h q x1 _ er17) zm_1231 zm_1233 zm_26 zq_X10_isRow zm_79 (by decide +kernel) ⟨Nat.le_of_ble_eq_true rfl, Nat.le_of_ble_eq_true rfl⟩ rfl rfl rfl (zi_X10_isRow er17) hl.1 rfl (by simp [zv_cat, zv_ci, zv_cj]) zd_X10_copy_62 ⟨(Nat.le_refl 0), (Nat.le_refl 0)⟩ (fun H locs hw => ?_)
          replace hw : zc_W g h H locs := hw
          have k98h : ∀ (_ : Unit) (H : Heap) (locs : List Loc) (ls : Array Slot), (
              (zf_gr h q 10 9).bind fun v19 =>
              v19.bind fun a21 =>
              (zf_ai h a21 0 x1).bind fun v22 =>
              let k116 := fun (_ : Unit) =>
                (zf_X10_no h q (-3)).bind fun r24 =>
                some (r24.1, r24.2)
              if v22 < 0 then
                k116 ()
              else
              (zf_gr h q 10 9).bind fun v25 =>
              v25.bind fun a27 =>
              (zf_ai h a27 0 x2).bind fun v28 =>
              if 0 ≤ v28 then
                if 0 ≤ x5 then
                  let k179 := fun (_ : Unit) =>
                    (zf_X10_no h q (-5)).bind fun r32 =>
                    some (r32.1, r32.2)
                  if x3 < 0 then
                    k179 ()
                  else
                  if x4 < 0 then
                    k179 ()
                  else
                  (zf_gr h q 10 10).bind fun v34 =>
                  v34.bind fun a36 =>
                  (zf_ai h a36 0 x1).bind fun v37 =>
                  if 0 < (lg_cmp (((x3 : Int32).toInt64) + ((x5 : Int32).toInt64)) ((v37 : Int32).toInt64)) then
                    k179 ()
                  else
                  (zf_gr h q 10 10).bind fun v39 =>
                  v39.bind fun a41 =>
                  (zf_ai h a41 0 x2).bind fun v42 =>
                  if (lg_cmp (((x4 : Int32).toInt64) + ((x5 : Int32).toInt64)) ((v42 : Int32).toInt64)) ≤ 0 then
                    let k248 := fun (_ : Unit) =>
                      (zf_X10_copy_L251 q x1 x2 x3 x4 x5 2000 h 0).bind fun w54 =>
                      some (w54, 1)
                    if x1 = x2 then
                      if x4 ≤ x3 then
                        k248 ()
                      else
                      (zf_X10_copy_L203 q x1 x2 x3 x4 2000 h (x5 - 1)).bind fun w65 =>
                      some (w65, 1)
                    else
                    k248 ()
                  else
                  k179 ()
                else
                (zf_X10_no h q (-4)).bind fun r66 =>
                some (r66.1, r66.2)
              else
              k116 ()
              ) = some res → zc_W g h H locs → lv_has ls 7 [(0, va_rf ((some q))), (1, .int (x1)), (2, .int (x2)), (3, .int (x3)), (4, .int (x4)), (5, .int (x5))] → W p l e zr_X10_copy s m [va_rf ((some q)), .int (x1), .int (x2), .int (x3), .int (x4), .int (x5)].toArray below meth c H locs (((0 + 0) + 0) + 0) (((0 + 0) + 0) + 0) (zc_Q g below zr_X10_copy (some (.int (res.2))) res.1 [va_rf ((some q)), .int (x1), .int (x2), .int (x3), .int (x4), .int (x5)] s) (F0 m 98 ls []) := by
            intro _ H locs ls hf hw hl
            refine zl_aload_n hx hb zd_X10_copy_98 rfl (lv_at hl 0 rfl) ?_
            replace hf := zo_b hf; obtain ⟨v19, ev19, hf⟩ := hf
            obtain ⟨u20, u20e, u20v⟩ := zo_b ev19
            obtain rfl := zv_r_e u20v
            refine zw_get S hK hw zk_10 (k := 9) (by decide) rfl zm_1097 (Or.inl rfl) u20e zd_X10_copy_99 ?_
            refine lv_iload_n hx hb zd_X10_copy_102 rfl (lv_at hl 1 rfl) ?_
            replace hf := zo_b hf; obtain ⟨a21, na21, hf⟩ := hf
            refine W.eq (g2 := F0 m 103 ls [.int (x1), va_rf ((some a21))]) (by rw [na21] <;> rfl) ?_
            replace hf := zo_b hf; obtain ⟨v22, ev22, hf⟩ := hf
            refine zw_iald S hK hw ev22 zd_X10_copy_103 ?_
            have k116h : ∀ (_ : Unit) (H : Heap) (locs : List Loc) (ls : Array Slot), (
                (zf_X10_no h q (-3)).bind fun r24 =>
                some (r24.1, r24.2)
                ) = some res → zc_W g h H locs → lv_has ls 7 [(0, va_rf ((some q)))] → W p l e zr_X10_copy s m [va_rf ((some q)), .int (x1), .int (x2), .int (x3), .int (x4), .int (x5)].toArray below meth c H locs (((0 + 0) + 0) + 0) (((0 + 0) + 0) + 0) (zc_Q g below zr_X10_copy (some (.int (res.2))) res.1 [va_rf ((some q)), .int (x1), .int (x2), .int (x3), .int (x4), .int (x5)] s) (F0 m 116 ls []) := by
              intro _ H locs ls hf hw hl
              refine zl_aload_n hx hb zd_X10_copy_116 rfl (lv_at hl 0 rfl) ?_
              refine lv_bipush (v := (-3)) hx hb zd_X10_copy_117 (by decide) ?_
              replace hf := zo_b hf; obtain ⟨r24, er24, hf⟩ := hf
              refine zw_callV (n := 1) (ci := 10) (q := zc_cl[10]) (As := [.int ((-3))]) (rest := []) S hK hw (zt_X10_no l g h q (-3) _ er24) zm_1219 zm_1221 zm_24 zq_X10_no zm_79 (by decide +kernel) ⟨Nat.le_of_ble_eq_true rfl, Nat.le_of_ble_eq_true rfl⟩ rfl rfl rfl (zi_X10_no er24) hl.1 rfl (by simp [zv_cat, zv_ci, zv_cj]) zd_X10_copy_119 ⟨(Nat.le_refl 0), (Nat.le_refl 0)⟩ (fun H locs hw => ?_)
              replace hw : zc_W g r24.1 H locs := hw
              have hres := Option.some.inj hf; subst hres
              exact zw_iret (v := r24.2) (ty := .int) hx hb hr hlk rfl hw zd_X10_copy_122 (Nat.le_refl 0) (Nat.le_refl 0)
            refine lv_if_lt (tgt := 116) hx hb zd_X10_copy_104 (by decide) (fun c23 => ?_) (fun c23 => ?_)
            · replace hf := zo_t c23 hf
              exact k116h () _ _ _ hf hw (lv_sub hl [0] rfl)
            · replace hf := zo_f c23 hf
              refine zl_aload_n hx hb zd_X10_copy_107 rfl (lv_at hl 0 rfl) ?_
              replace hf := zo_b hf; obtain ⟨v25, ev25, hf⟩ := hf
              obtain ⟨u26, u26e, u26v⟩ := zo_b ev25
              obtain rfl := zv_r_e u26v
              refine zw_get S hK hw zk_10 (k := 9) (by decide) rfl zm_1097 (Or.inl rfl) u26e zd_X10_copy_108 ?_
              refine lv_iload_n hx hb zd_X10_copy_111 rfl (lv_at hl 2 rfl) ?_
              replace hf := zo_b hf; obtain ⟨a27, na27, hf⟩ := hf
              refine W.eq (g2 := F0 m 112 ls [.int (x2), va_rf ((some a27))]) (by rw [na27] <;> rfl) ?_
              replace hf := zo_b hf; obtain ⟨v28, ev28, hf⟩ := hf
              refine zw_iald S hK hw ev28 zd_X10_copy_112 ?_
              refine lv_if_ge (tgt := 123) hx hb zd_X10_copy_113 (by decide) (fun c29 => ?_) (fun c29 => ?_)
              · replace hf := zo_t c29 hf
                refine lv_iload hx hb zd_X10_copy_123 (lv_at hl 5 rfl) ?_
                refine lv_if_ge (tgt := 135) hx hb zd_X10_copy_125 (by decide) (fun c30 => ?_) (fun c30 => ?_)
                · replace hf := zo_t c30 hf
                  refine lv_iload_n hx hb zd_X10_copy_135 rfl (lv_at hl 3 rfl) ?_
                  have k179h : ∀ (_ : Unit) (H : Heap) (locs : List Loc) (ls : Array Slot), (
                      (zf_X10_no h q (-5)).bind fun r32 =>
                      some (r32.1, r32.2)
                      ) = some res → zc_W g h H locs → lv_has ls 7 [(0, va_rf ((some q)))] → W p l e zr_X10_copy s m [va_rf ((some q)), .int (x1), .int (x2), .int (x3), .int (x4), .int (x5)].toArray below meth c H locs (((0 + 0) + 0) + 0) (((0 + 0) + 0) + 0) (zc_Q g below zr_X10_copy (some (.int (res.2))) res.1 [va_rf ((some q)), .int (x1), .int (x2), .int (x3), .int (x4), .int (x5)] s) (F0 m 179 ls []) := by
                    intro _ H locs ls hf hw hl
                    refine zl_aload_n hx hb zd_X10_copy_179 rfl (lv_at hl 0 rfl) ?_
                    refine lv_bipush (v := (-5)) hx hb zd_X10_copy_180 (by decide) ?_
                    replace hf := zo_b hf; obtain ⟨r32, er32, hf⟩ := hf
                    refine zw_callV (n := 1) (ci := 10) (q := zc_cl[10]) (As := [.int ((-5))]) (rest := []) S hK hw (zt_X10_no l g h q (-5) _ er32) zm_1219 zm_1221 zm_24 zq_X10_no zm_79 (by decide +kernel) ⟨Nat.le_of_ble_eq_true rfl, Nat.le_of_ble_eq_true rfl⟩ rfl rfl rfl (zi_X10_no er32) hl.1 rfl (by simp [zv_cat, zv_ci, zv_cj]) zd_X10_copy_182 ⟨(Nat.le_refl 0), (Nat.le_refl 0)⟩ (fun H locs hw => ?_)
                    replace hw : zc_W g r32.1 H locs := hw
                    have hres := Option.some.inj hf; subst hres
                    exact zw_iret (v := r32.2) (ty := .int) hx hb hr hlk rfl hw zd_X10_copy_185 (Nat.le_refl 0) (Nat.le_refl 0)
                  refine lv_if_lt (tgt := 179) hx hb zd_X10_copy_136 (by decide) (fun c31 => ?_) (fun c31 => ?_)
                  · replace hf := zo_t c31 hf
                    exact k179h () _ _ _ hf hw (lv_sub hl [0] rfl)
                  · replace hf := zo_f c31 hf
                    refine lv_iload hx hb zd_X10_copy_139 (lv_at hl 4 rfl) ?_
                    refine lv_if_lt (tgt := 179) hx hb zd_X10_copy_141 (by decide) (fun c33 => ?_) (fun c33 => ?_)
                    · replace hf := zo_t c33 hf
                      exact k179h () _ _ _ hf hw (lv_sub hl [0] rfl)
                    · replace hf := zo_f c33 hf
                      refine lv_iload_n hx hb zd_X10_copy_144 rfl (lv_at hl 3 rfl) ?_
                      refine lv_i2l (v := ((x3 : Int32).toInt64)) hx hb zd_X10_copy_145 rfl ?_
                      refine lv_iload hx hb zd_X10_copy_146 (lv_at hl 5 rfl) ?_
                      refine lv_i2l (v := ((x5 : Int32).toInt64)) hx hb zd_X10_copy_148 rfl ?_
                      refine lv_ladd hx hb zd_X10_copy_149 ?_
                      refine zl_aload_n hx hb zd_X10_copy_150 rfl (lv_at hl 0 rfl) ?_
                      replace hf := zo_b hf; obtain ⟨v34, ev34, hf⟩ := hf
                      obtain ⟨u35, u35e, u35v⟩ := zo_b ev34
                      obtain rfl := zv_r_e u35v
                      refine zw_get S hK hw zk_10 (k := 10) (by decide) rfl zm_1098 (Or.inl rfl) u35e zd_X10_copy_151 ?_
                      refine lv_iload_n hx hb zd_X10_copy_154 rfl (lv_at hl 1 rfl) ?_
                      replace hf := zo_b hf; obtain ⟨a36, na36, hf⟩ := hf
                      refine W.eq (g2 := F0 m 155 ls [.int (x1), va_rf ((some a36)), .long ((((x3 : Int32).toInt64) + ((x5 : Int32).toInt64)))]) (by rw [na36] <;> rfl) ?_
                      replace hf := zo_b hf; obtain ⟨v37, ev37, hf⟩ := hf
                      refine zw_iald S hK hw ev37 zd_X10_copy_155 ?_
                      refine lv_i2l (v := ((v37 : Int32).toInt64)) hx hb zd_X10_copy_156 rfl ?_
                      refine W.lcmp hx hb zd_X10_copy_157 ?_
                      refine lv_if_gt (tgt := 179) hx hb zd_X10_copy_158 (by decide) (fun c38 => ?_) (fun c38 => ?_)
                      · replace hf := zo_t c38 hf
                        exact k179h () _ _ _ hf hw (lv_sub hl [0] rfl)
                      · replace hf := zo_f c38 hf
                        refine lv_iload hx hb zd_X10_copy_161 (lv_at hl 4 rfl) ?_
                        refine lv_i2l (v := ((x4 : Int32).toInt64)) hx hb zd_X10_copy_163 rfl ?_
                        refine lv_iload hx hb zd_X10_copy_164 (lv_at hl 5 rfl) ?_
                        refine lv_i2l (v := ((x5 : Int32).toInt64)) hx hb zd_X10_copy_166 rfl ?_
                        refine lv_ladd hx hb zd_X10_copy_167 ?_
                        refine zl_aload_n hx hb zd_X10_copy_168 rfl (lv_at hl 0 rfl) ?_
                        replace hf := zo_b hf; obtain ⟨v39, ev39, hf⟩ := hf
                        obtain ⟨u40, u40e, u40v⟩ := zo_b ev39
                        obtain rfl := zv_r_e u40v
                        refine zw_get S hK hw zk_10 (k := 10) (by decide) rfl zm_1098 (Or.inl rfl) u40e zd_X10_copy_169 ?_
                        refine lv_iload_n hx hb zd_X10_copy_172 rfl (lv_at hl 2 rfl) ?_
                        replace hf := zo_b hf; obtain ⟨a41, na41, hf⟩ := hf
                        refine W.eq (g2 := F0 m 173 ls [.int (x2), va_rf ((some a41)), .long ((((x4 : Int32).toInt64) + ((x5 : Int32).toInt64)))]) (by rw [na41] <;> rfl) ?_
                        replace hf := zo_b hf; obtain ⟨v42, ev42, hf⟩ := hf
                        refine zw_iald S hK hw ev42 zd_X10_copy_173 ?_
                        refine lv_i2l (v := ((v42 : Int32).toInt64)) hx hb zd_X10_copy_174 rfl ?_
                        refine W.lcmp hx hb zd_X10_copy_175 ?_
                        refine lv_if_le (tgt := 186) hx hb zd_X10_copy_176 (by decide) (fun c43 => ?_) (fun c43 => ?_)
                        · replace hf := zo_t c43 hf
                          refine lv_iload_n hx hb zd_X10_copy_186 rfl (lv_at hl 1 rfl) ?_
                          refine lv_iload_n hx hb zd_X10_copy_187 rfl (lv_at hl 2 rfl) ?_
                          have k248h : ∀ (_ : Unit) (H : Heap) (locs : List Loc) (ls : Array Slot), (
                              (zf_X10_copy_L251 q x1 x2 x3 x4 x5 2000 h 0).bind fun w54 =>
                              some (w54, 1)
                              ) = some res → zc_W g h H locs → lv_has ls 7 [(0, va_rf ((some q))), (1, .int (x1)), (2, .int (x2)), (3, .int (x3)), (4, .int (x4)), (5, .int (x5))] → W p l e zr_X10_copy s m [va_rf ((some q)), .int (x1), .int (x2), .int (x3), .int (x4), .int (x5)].toArray below meth c H locs (((0 + 0) + 0) + 0) (((0 + 0) + 0) + 0) (zc_Q g below zr_X10_copy (some (.int (res.2))) res.1 [va_rf ((some q)), .int (x1), .int (x2), .int (x3), .int (x4), .int (x5)] s) (F0 m 248 ls []) := by
                            intro _ H locs ls hf hw hl
                            refine lv_iconst (v := 0) hx hb zd_X10_copy_248 (by decide) ?_
                            refine lv_istore (i := 6) (lv' := [(6, .int (0)), (0, va_rf ((some q))), (1, .int (x1)), (2, .int (x2)), (3, .int (x3)), (4, .int (x4)), (5, .int (x5))]) hx hb zd_X10_copy_249 hl (by decide) rfl (fun ls hl => ?_)
                            replace hf := zo_b hf; obtain ⟨w54, w54e, hf⟩ := hf
                            refine L251 x1 x2 x3 x4 x5 2000 h 0 _ _ _ _ w54e hw (lv_sub hl [1, 2, 3, 4, 5, 6, 0] rfl) (fun H locs ls hw hl => ?_)
                            refine lv_iconst (v := 1) hx hb zd_X10_copy_295 (by decide) ?_
                            have hres := Option.some.inj hf; subst hres
                            exact zw_iret (v := 1) (ty := .int) hx hb hr hlk rfl hw zd_X10_copy_296 (Nat.le_refl 0) (Nat.le_refl 0)
                          refine lv_icmp_ne (tgt := 248) hx hb zd_X10_copy_188 (by decide) (fun c44 => ?_) (fun c44 => ?_)
                          · replace hf := zo_f c44 hf
                            exact k248h () _ _ _ hf hw (lv_sub hl [0, 1, 2, 3, 4, 5] rfl)
                          · replace hf := zo_t c44 hf
                            refine lv_iload_n hx hb zd_X10_copy_191 rfl (lv_at hl 3 rfl) ?_
                            refine lv_iload hx hb zd_X10_copy_192 (lv_at hl 4 rfl) ?_
                            refine lv_icmp_ge (tgt := 248) hx hb zd_X10_copy_194 (by decide) (fun c55 => ?_) (fun c55 => ?_)
                            · replace hf := zo_t c55 hf
                              exact k248h () _ _ _ hf hw (lv_sub hl [0, 1, 2, 3, 4, 5] rfl)
                            · replace hf := zo_f c55 hf
                              refine lv_iload hx hb zd_X10_copy_197 (lv_at hl 5 rfl) ?_
                              refine lv_iconst (v := 1) hx hb zd_X10_copy_199 (by decide) ?_
                              refine lv_isub hx hb zd_X10_copy_200 ?_
                              refine lv_istore (i := 6) (lv' := [(6, .int ((x5 - 1))), (0, va_rf ((some q))), (1, .int (x1)), (2, .int (x2)), (3, .int (x3)), (4, .int (x4)), (5, .int (x5))]) hx hb zd_X10_copy_201 hl (by decide) rfl (fun ls hl => ?_)
                              replace hf := zo_b hf; obtain ⟨w65, w65e, hf⟩ := hf
                              refine L203 x1 x2 x3 x4 2000 h (x5 - 1) _ _ _ _ w65e hw (lv_sub hl [1, 2, 3, 4, 5, 0] rfl) (fun H locs ls hw hl => ?_)
                              refine lv_goto (tgt := 295) hx hb zd_X10_copy_245 (by decide) ?_
                              refine lv_iconst (v := 1) hx hb zd_X10_copy_295 (by decide) ?_
                              have hres := Option.some.inj hf; subst hres
                              exact zw_iret (v := 1) (ty := .int) hx hb hr hlk rfl hw zd_X10_copy_296 (Nat.le_refl 0) (Nat.le_refl 0)
                        · replace hf := zo_f c43 hf
                          exact k179h () _ _ _ hf hw (lv_sub hl [0] rfl)
                · replace hf := zo_f c30 hf
                  refine zl_aload_n hx hb zd_X10_copy_128 rfl (lv_at hl 0 rfl) ?_
                  refine lv_bipush (v := (-4)) hx hb zd_X10_copy_129 (by decide) ?_
                  replace hf := zo_b hf; obtain ⟨r66, er66, hf⟩ := hf
                  refine zw_callV (n := 1) (ci := 10) (q := zc_cl[10]) (As := [.int ((-4))]) (rest := []) S hK hw (zt_X10_no l g h q (-4) _ er66) zm_1219 zm_1221 zm_24 zq_X10_no zm_79 (by decide +kernel) ⟨Nat.le_of_ble_eq_true rfl, Nat.le_of_ble_eq_true rfl⟩ rfl rfl rfl (zi_X10_no er66) hl.1 rfl (by simp [zv_cat, zv_ci, zv_cj]) zd_X10_copy_131 ⟨(Nat.le_refl 0), (Nat.le_refl 0)⟩ (fun H locs hw => ?_)
                  replace hw : zc_W g r66.1 H locs := hw
                  have hres := Option.some.inj hf; subst hres
                  exact zw_iret (v := r66.2) (ty := .int) hx hb hr hlk rfl hw zd_X10_copy_134 (Nat.le_refl 0) (Nat.le_refl 0)
              · replace hf := zo_f c29 hf
                exact k116h () _ _ _ hf hw (lv_sub hl [0] rfl)
          refine lv_if_eq (tgt := 98) hx hb zd_X10_copy_65 (by decide) (fun c18 => ?_) (fun c18 => ?_)
          · replace hf := zo_t c18 hf
            exact k98h () _ _ _ hf hw (lv_sub hl [0, 1, 2, 3, 4, 5] rfl)
          · replace hf := zo_f c18 hf
            refine zl_aload_n hx hb zd_X10_copy_68 rfl (lv_at hl 0 rfl) ?_
            refine lv_iload_n hx hb zd_X10_copy_69 rfl (lv_at hl 2 rfl) ?_
            replace hf := zo_b hf; obtain ⟨r67, er67, hf⟩ := hf
            refine zw_callV (n := 1) (ci := 10) (q := zc_cl[10]) (As := [.int (x2)]) (rest := []) S hK hw (zt_X10_isRow l g h q x2 _ er67) zm_1231 zm_1233 zm_26 zq_X10_isRow zm_79 (by decide +kernel) ⟨Nat.le_of_ble_eq_true rfl, Nat.le_of_ble_eq_true rfl⟩ rfl rfl rfl (zi_X10_isRow er67) hl.1 rfl (by simp [zv_cat, zv_ci, zv_cj]) zd_X10_copy_70 ⟨(Nat.le_refl 0), (Nat.le_refl 0)⟩ (fun H locs hw => ?_)
            replace hw : zc_W g h H locs := hw
            refine lv_if_eq (tgt := 98) hx hb zd_X10_copy_73 (by decide) (fun c68 => ?_) (fun c68 => ?_)
            · replace hf := zo_t c68 hf
              exact k98h () _ _ _ hf hw (lv_sub hl [0, 1, 2, 3, 4, 5] rfl)
            · replace hf := zo_f c68 hf
              refine zl_aload_n hx hb zd_X10_copy_76 rfl (lv_at hl 0 rfl) ?_
              replace hf := zo_b hf; obtain ⟨v69, ev69, hf⟩ := hf
              obtain ⟨u70, u70e, u70v⟩ := zo_b ev69
              obtain rfl := zv_r_e u70v
              refine zw_get S hK hw zk_10 (k := 9) (by decide) rfl zm_1097 (Or.inl rfl) u70e zd_X10_copy_77 ?_
              refine lv_iload_n hx hb zd_X10_copy_80 rfl (lv_at hl 1 rfl) ?_
              replace hf := zo_b hf; obtain ⟨a71, na71, hf⟩ := hf
              refine W.eq (g2 := F0 m 81 ls [.int (x1), va_rf ((some a71))]) (by rw [na71] <;> rfl) ?_
              replace hf := zo_b hf; obtain ⟨v72, ev72, hf⟩ := hf
              refine zw_iald S hK hw ev72 zd_X10_copy_81 ?_
              refine zl_aload_n hx hb zd_X10_copy_82 rfl (lv_at hl 0 rfl) ?_
              replace hf := zo_b hf; obtain ⟨v73, ev73, hf⟩ := hf
              obtain ⟨u74, u74e, u74v⟩ := zo_b ev73
              obtain rfl := zv_r_e u74v
              refine zw_get S hK hw zk_10 (k := 9) (by decide) rfl zm_1097 (Or.inl rfl) u74e zd_X10_copy_83 ?_
              refine lv_iload_n hx hb zd_X10_copy_86 rfl (lv_at hl 2 rfl) ?_
              replace hf := zo_b hf; obtain ⟨a75, na75, hf⟩ := hf
              refine W.eq (g2 := F0 m 87 ls [.int (x2), va_rf ((some a75)), .int (v72)]) (by rw [na75] <;> rfl) ?_
              replace hf := zo_b hf; obtain ⟨v76, ev76, hf⟩ := hf
              refine zw_iald S hK hw ev76 zd_X10_copy_87 ?_
              refine lv_icmp_eq (tgt := 98) hx hb zd_X10_copy_88 (by decide) (fun c77 => ?_) (fun c77 => ?_)
              · replace hf := zo_t c77 hf
                exact k98h () _ _ _ hf hw (lv_sub hl [0, 1, 2, 3, 4, 5] rfl)
              · replace hf := zo_f c77 hf
                exact k91h () _ _ _ hf hw (lv_sub hl [0] rfl)
        refine lv_if_lt (tgt := 60) hx hb zd_X10_copy_49 (by decide) (fun c16 => ?_) (fun c16 => ?_)
        · replace hf := zo_t c16 hf
          exact k60h () _ _ _ hf hw (lv_sub hl [0, 1, 2, 3, 4, 5] rfl)
        · replace hf := zo_f c16 hf
          refine zl_aload_n hx hb zd_X10_copy_52 rfl (lv_at hl 0 rfl) ?_
          refine lv_iload_n hx hb zd_X10_copy_53 rfl (lv_at hl 2 rfl) ?_
          replace hf := zo_b hf; obtain ⟨r78, er78, hf⟩ := hf
          refine zw_callV (n := 1) (ci := 10) (q := zc_cl[10]) (As := [.int (x2)]) (rest := []) S hK hw (zt_X10_isRow l g h q x2 _ er78) zm_1231 zm_1233 zm_26 zq_X10_isRow zm_79 (by decide +kernel) ⟨Nat.le_of_ble_eq_true rfl, Nat.le_of_ble_eq_true rfl⟩ rfl rfl rfl (zi_X10_isRow er78) hl.1 rfl (by simp [zv_cat, zv_ci, zv_cj]) zd_X10_copy_54 ⟨(Nat.le_refl 0), (Nat.le_refl 0)⟩ (fun H locs hw => ?_)
          replace hw : zc_W g h H locs := hw
          refine lv_if_eq (tgt := 91) hx hb zd_X10_copy_57 (by decide) (fun c79 => ?_) (fun c79 => ?_)
          · replace hf := zo_t c79 hf
            exact k91h () _ _ _ hf hw (lv_sub hl [0] rfl)
          · replace hf := zo_f c79 hf
            exact k60h () _ _ _ hf hw (lv_sub hl [0, 1, 2, 3, 4, 5] rfl)
      refine lv_if_lt (tgt := 43) hx hb zd_X10_copy_32 (by decide) (fun c10 => ?_) (fun c10 => ?_)
      · replace hf := zo_t c10 hf
        exact k43h () _ _ _ hf hw (lv_sub hl [0, 1, 2, 3, 4, 5] rfl)
      · replace hf := zo_f c10 hf
        refine zl_aload_n hx hb zd_X10_copy_35 rfl (lv_at hl 0 rfl) ?_
        refine lv_iload_n hx hb zd_X10_copy_36 rfl (lv_at hl 1 rfl) ?_
        replace hf := zo_b hf; obtain ⟨r80, er80, hf⟩ := hf
        refine zw_callV (n := 1) (ci := 10) (q := zc_cl[10]) (As := [.int (x1)]) (rest := []) S hK hw (zt_X10_isRow l g h q x1 _ er80) zm_1231 zm_1233 zm_26 zq_X10_isRow zm_79 (by decide +kernel) ⟨Nat.le_of_ble_eq_true rfl, Nat.le_of_ble_eq_true rfl⟩ rfl rfl rfl (zi_X10_isRow er80) hl.1 rfl (by simp [zv_cat, zv_ci, zv_cj]) zd_X10_copy_37 ⟨(Nat.le_refl 0), (Nat.le_refl 0)⟩ (fun H locs hw => ?_)
        replace hw : zc_W g h H locs := hw
        refine lv_if_eq (tgt := 91) hx hb zd_X10_copy_40 (by decide) (fun c81 => ?_) (fun c81 => ?_)
        · replace hf := zo_t c81 hf
          exact k91h () _ _ _ hf hw (lv_sub hl [0] rfl)
        · replace hf := zo_f c81 hf
          exact k43h () _ _ _ hf hw (lv_sub hl [0, 1, 2, 3, 4, 5] rfl)
    · replace hf := zo_t c5 hf
      exact k20h () _ _ _ hf hw (lv_sub hl [0] rfl)
