/-! by hand: Arrays.copyOf(Object[], int) of a list's array -/
theorem zm_h20 : Cond.classLink "java/util/Arrays" 110 "[Ljava/lang/Object;" ∈ zc_T := zc_in 597 (by decide +kernel) (by decide +kernel)
theorem zm_h21 : Cond.classLink "java/util/Arrays" 2 "java/lang/Object" ∈ zc_T := zc_in 599 (by decide +kernel) (by decide +kernel)
theorem zm_h22 : Cond.methodLink "java/util/Arrays" 304 Lib.Math.min.name ∈ zc_T := zc_in 521 (by decide +kernel) (by decide +kernel)
theorem zm_h23 : Cond.static Lib.Math.min.name ∈ zc_T := zc_in 522 (by decide +kernel) (by decide +kernel)
theorem zm_h24 : Cond.initialized "java/lang/Math" ∈ zc_T := zc_in 85 (by decide +kernel) (by decide +kernel)
theorem zm_h25 : Cond.code Lib.Math.min.name Lib.Math.min.code 2 (some .int) ∈ zc_T := zc_in 523 (by decide +kernel) (by decide +kernel)
theorem zm_h26 : Cond.methodLink "java/util/Arrays" 150 arraycopyName ∈ zc_T := zc_in 524 (by decide +kernel) (by decide +kernel)
theorem zm_h27 : Cond.methodLink "java/util/Arrays" 86 ⟨"java/lang/Object", "getClass", "()Ljava/lang/Class;"⟩ ∈ zc_T := zc_in 578 (by decide +kernel) (by decide +kernel)
theorem zm_h28 : Cond.instanceMethod ⟨"java/lang/Object", "getClass", "()Ljava/lang/Class;"⟩ ∈ zc_T := zc_in 579 (by decide +kernel) (by decide +kernel)
theorem zm_h29 : Cond.native ⟨"java/lang/Object", "getClass", "()Ljava/lang/Class;"⟩ ∈ zc_T := zc_in 593 (by decide +kernel) (by decide +kernel)
theorem zm_h30 : Cond.declares ⟨"java/lang/Object", "getClass", "()Ljava/lang/Class;"⟩ ∈ zc_N := zc_inN 1557 (by decide +kernel) (by decide +kernel)
theorem zm_h31 : Cond.selects "[Ljava/lang/Object;" ⟨"java/lang/Object", "getClass", "()Ljava/lang/Class;"⟩ ⟨"java/lang/Object", "getClass", "()Ljava/lang/Class;"⟩ ∈ zc_T := zc_in 1556 (by decide +kernel) (by decide +kernel)
theorem zm_h32 : Cond.methodLink RJ7 300 yJ7_copyOf_6403c ∈ zc_T := zc_in 594 (by decide +kernel) (by decide +kernel)
theorem zm_h33 : Cond.static yJ7_copyOf_6403c ∈ zc_T := zc_in 595 (by decide +kernel) (by decide +kernel)
theorem zm_h34 : Cond.initialized RJ7 ∈ zc_T := zc_in 80 (by decide +kernel) (by decide +kernel)
/-- the cells of which a list holds references: revisions and remarks -/
def zf_ok (h : zc_H) (f : Nat → Option Nat) (n : Nat) : Bool := (List.range n).all fun i => match f i with
  | none => true
  | some y => zf_is h y 4 || zf_is h y 3
theorem zf_ok_e {h : zc_H} {f : Nat → Option Nat} {n i y : Nat} (hv : zf_ok h f n = true) (hi : i < n) (hy : f i = some y) : zf_is h y 4 = true ∨ zf_is h y 3 = true := by
  have h1 := List.all_eq_true.mp hv i (List.mem_range.mpr hi)
  rw [hy] at h1
  simpa using h1
def zf_J7_copyOf_1904c (h : zc_H) (x0 : Option Nat) (x1 : Int32) : Option (zc_H × Option Nat) := x0.bind fun a => match h.1 a with
  | some (.inl (t, n0, .inr (.inr (.inr (.inr f))))) => if t = 4 ∧ ¬ x1 < 0 ∧ x1.toNatClampNeg ≤ 40 ∧ n0 ≤ x1.toNatClampNeg ∧ zf_ok h f n0 = true then some (zf_new h (.inl (4, x1.toNatClampNeg, .inr (.inr (.inr (.inr (va_cpy f (fun _ => none) 0 0 n0)))))), some h.2.1) else none
  | _ => none
theorem zc_obj {g : zc_G} {s : State} {h : zc_H} {H : Heap} {locs : List Loc} (hK : zc_K g s) (hw : zc_W g h H locs) {y : Nat} (hy : zf_is h y 4 = true ∨ zf_is h y 3 = true) : ∃ (cell : Cell) (t0 : ClassId), H[y]? = some cell ∧ cell.vm.isStatics = false ∧ s.vm.findClass "java/lang/Object" = some t0 ∧ s.vm.assignable cell.cls t0 = true ∧ ∃ kC, s.vm.classes[cell.cls]? = some kC := by
  rcases hy with hx | hx
  · obtain ⟨cell, e1, e2, e3⟩ := zc_rcv (ci := 4) (q := (RX4, TX4, 5)) hK hw rfl hx
    obtain ⟨c0, t0, f1, f2, f3⟩ := Cond.castable_spec (va_Nw.use (A := #[]) rfl (hK.2.1 _ zm_h9))
    have hc := Option.some.inj (e3.symm.trans f1)
    obtain ⟨kC, hkC, -⟩ := Vm.findClass_spec e3
    exact ⟨cell, t0, e1, e2, f2, by rw [hc]; exact f3, kC, hkC⟩
  · obtain ⟨cell, e1, e2, e3⟩ := zc_rcv (ci := 3) (q := (RX3, TX3, 6)) hK hw rfl hx
    obtain ⟨c0, t0, f1, f2, f3⟩ := Cond.castable_spec (va_Nw.use (A := #[]) rfl (hK.2.1 _ zm_h10))
    have hc := Option.some.inj (e3.symm.trans f1)
    obtain ⟨kC, hkC, -⟩ := Vm.findClass_spec e3
    exact ⟨cell, t0, e1, e2, f2, by rw [hc]; exact f3, kC, hkC⟩
theorem zf_up_new (h : zc_H) (e e2 : va_E) : zf_up (zf_new h e) h.2.1 e2 = zf_new h e2 := by
  unfold zf_up zf_new
  congr 1
  funext j
  by_cases hj : j = h.2.1
  · simp [va_up, hj]
  · simp [va_up, hj]
theorem zn_min {n0 : Nat} {n : Int32} (h0 : ¬ n < 0) (hn : n0 ≤ n.toNatClampNeg) (h40 : n.toNatClampNeg ≤ 40) : (if n < Int32.ofNat n0 then n else Int32.ofNat n0) = nI n0 := by
  have e1 : n = nI n.toNatClampNeg := by
    apply Int32.toInt_inj.mp
    rw [zn_cl h0]
    exact (nI_toInt (by omega)).symm
  rw [e1]
  exact if_neg (nI_nlt hn (by omega))
section ZL
variable {p : Program} {l : Launch} {e : Env} {R : Room} {s : State} {m : MethodId} {args : Array Value} {below : List Frame} {meth : Method} {c : Code} {H : Heap} {locs : List Loc} {cells slots : Nat} {Q : State → Prop}
variable {cc : ByteArray} {pc nL : Nat} {ls : Array Slot} {rest : List Value} {own : String} {w0 : Cond} {g : zc_G} {h h2 : zc_H} {index : Nat}
/-- the first n of a list's array come to another: a fresh one -/
theorem zw_cpO {a b n0 n1 : Nat} {f f1 : Nat → Option Nat} {n : Int32} (S : CallFix p m c cc nL s args (w0 :: zc_T) own) (hK : zc_K g s) (hw : zc_W g h H locs) (hsz : ls.size = nL) (hlink : Cond.methodLink own index arraycopyName ∈ zc_T) (ha : h.1 a = some (.inl (4, n0, .inr (.inr (.inr (.inr f)))))) (hb1 : h.1 b = some (.inl (4, n1, .inr (.inr (.inr (.inr f1)))))) (h3 : ¬ n < 0) (h4 : n.toNatClampNeg = n0) (h5 : n0 ≤ n1) (hok : zf_ok h f n0 = true)
    (hframes : 1 ≤ R.frames) (hlocals : (rest.map fun v => v.category).sum + (nativeFrameWords "java/lang/System" "arraycopy" 5 + 11) ≤ R.locals) (hdg : decode cc pc = .ok (.invokestatic index, 3))
    (kk : ∀ (H1 : Heap) (locs1 : List Loc), zc_W g (zf_up h b (.inl (4, n1, .inr (.inr (.inr (.inr (va_cpy f f1 0 0 n0))))))) H1 locs1 → W p l e R s m args below meth c H1 locs1 cells slots Q (F0 m (pc + 3) ls rest)) : W p l e R s m args below meth c H locs cells slots Q (F0 m pc ls (.int n :: .int 0 :: va_rf (some b) :: .int 0 :: va_rf (some a) :: rest)) := by
  have ht : ∀ {w : Cond}, w ∈ zc_T → w.before args s = true := fun h => S.2.2.2.2 _ (List.mem_cons_of_mem _ h)
  have hc0 : H[a]? = some (vp_cell (g.2.1 4) (n0, .inr (.inr (.inr (.inr f))))) := hw.arr ha 0 _ rfl
  have hc1 : H[b]? = some (vp_cell (g.2.1 4) (n1, .inr (.inr (.inr (.inr f1))))) := hw.arr hb1 0 _ rfl
  obtain ⟨-, k0, hk0, cm0, hkk0⟩ := (hK.1.2 4 _ rfl).1 n0 (fun j => va_rf (f j))
  have hz0 : (0 : Int32).toNatClampNeg = 0 := by decide
  have hi0 : (0 : Int32).toInt = 0 := by decide
  intro T hT X
  obtain ⟨vm', X', step⟩ := X.arraycopy S.1 S.2.2.2.1 (ht hlink) (ht zm_h0) (ht zm_h1) (ht zm_h2) (src := a) (dst := b) (cs := vp_cell (g.2.1 4) (n0, .inr (.inr (.inr (.inr f))))) (cd := vp_cell (g.2.1 4) (n1, .inr (.inr (.inr (.inr f1))))) (srcPos := 0) (destPos := 0) (n := n) (by rw [hT]; exact hc0) (by rw [hT]; exact hc1)
    (fun _ h => by cases h) (fun _ h => by cases h) (fun h => by cases h) (fun h => by cases h) hk0 hk0 hkk0 hkk0 rfl (by decide) (by decide) h3
    (by rw [hi0, zn_cl h3]; show ¬ _ > ((arrV (g.2.1 4) n0 (fun j => va_rf (f j))).slots.size : Int); rw [arrV_size]; omega)
    (by rw [hi0, zn_cl h3]; show ¬ _ > ((arrV (g.2.1 4) n1 (fun j => va_rf (f1 j))).slots.size : Int); rw [arrV_size]; omega)
    (fun vm₁ hal i hi => by
      rw [hz0, Nat.zero_add]
      have e : (vp_cell (g.2.1 4) (n0, .inr (.inr (.inr (.inr f))))).slots.getD i .null = va_rf (f i) := by
        show (arrV (g.2.1 4) n0 (fun j => va_rf (f j))).slots.getD _ _ = _
        rw [Array.getD_eq_getD_getElem?, arrV_read _ _ (by omega)]
        rfl
      rw [e]
      cases hy : f i with
      | none => exact ⟨rfl, trivial⟩
      | some y =>
        obtain ⟨cellV, t0, g1, g2, g3, g4, kC, hkC⟩ := zc_obj hK hw (zf_ok_e hok (by omega) hy)
        obtain ⟨kA, comp, r1, r2, r3, -⟩ := (hK.1.2 4 _ rfl).2
        cases hk0.symm.trans r1
        cases hkk0.symm.trans r2
        have hct : cm0 = t0 := Option.some.inj (r3.symm.trans g3)
        obtain ⟨kE, hkE, -⟩ := Vm.findClass_spec r3
        obtain ⟨kC', hkC', -⟩ := hal.2.2 _ _ hkC
        obtain ⟨kE', hkE', -⟩ := hal.2.2 _ _ hkE
        refine ⟨rfl, cellV, (show T.heap[y]? = some cellV by rw [hT]; exact g1), (fun q h => by rw [h] at g2; cases g2), ⟨kC', hkC'⟩, ?_, ?_⟩
        · exact ⟨kE', hkE'⟩
        · show vm₁.assignable _ _ = true
          rw [hal.assignable, hct]
          exact g4)
    (g := F0 m pc ls (.int n :: .int 0 :: va_rf (some b) :: .int 0 :: va_rf (some a) :: rest)) rfl (by rw [S.2.2.1]; exact hsz) (rest := rest) rfl (by rw [S.2.1]; exact hdg) hframes (by show 2 * 0 + _ + _ ≤ _; omega)
  have e1 : copied (vp_cell (g.2.1 4) (n0, .inr (.inr (.inr (.inr f))))) (vp_cell (g.2.1 4) (n1, .inr (.inr (.inr (.inr f1))))) 0 0 n = vp_cell (g.2.1 4) (n1, .inr (.inr (.inr (.inr (va_cpy f f1 0 0 n0))))) := by
    rw [vp_cell_q, vp_cell_q, vp_cell_q, ← h4]
    exact va_copied (fun z => va_rf z) _ _ f f1 (by rw [hz0]; omega)
  rw [e1] at X' step
  have hl : b < T.heap.size := by rw [hT]; exact (Array.getElem?_eq_some_iff.mp hc1).1
  subst hT
  have hwn : ∀ L : List Loc, (∀ q ∈ L, q.base = b) → zc_W g (zf_up h b (.inl (4, n1, .inr (.inr (.inr (.inr (va_cpy f f1 0 0 n0))))))) ((T.setVm vm').setCell b (vp_cell (g.2.1 4) (n1, .inr (.inr (.inr (.inr (va_cpy f f1 0 0 n0))))))).heap (locs ++ L) := fun L hL =>
    hw.upL hb1 (e := .inl (4, n1, .inr (.inr (.inr (.inr (va_cpy f f1 0 0 n0)))))) ⟨Nat.le_of_ble_eq_true rfl, heapAt_setCell_self (s := T.setVm vm') _ hl⟩ (size_setCell (T.setVm vm') _ _) (fun x hx => heapAt_setCell_ne (s := T.setVm vm') _ (Ne.symm hx)) hL
  obtain ⟨t, a1, b1⟩ := kk _ _ (hwn _ (by
    intro q hq
    obtain ⟨z, -, hz⟩ := List.mem_map.mp hq
    rw [← hz])) _ rfl X'
  exact ⟨t, step t a1, b1⟩
end ZL
def zr_J7_copyOf_6403c : Room := { frames := 1, cells := 1, slots := 40, locals := 60 }
abbrev zr_J7_copyOf_1904c : Room := { frames := 3, cells := 1, slots := 40, locals := 120 }
set_option maxHeartbeats 4000000 in
theorem zt_c3 (l : Launch) (g : zc_G) (h : zc_H) (a n0 mi : Nat) (f : Nat → Option Nat) (n : Int32) (ha : h.1 a = some (.inl (4, n0, .inr (.inr (.inr (.inr f)))))) (h0 : ¬ n < 0) (h40 : n.toNatClampNeg ≤ 40) (hle : n0 ≤ n.toNatClampNeg) (hok : zf_ok h f n0 = true) :
    Met l yJ7_copyOf_6403c (zc_ws yJ7_copyOf_6403c cJ7_copyOf_6403c 4 (some (.array (.object "java/lang/Object")))) zr_J7_copyOf_6403c (va_Pc [va_rf (some a), .int n, va_rf (some mi)] (fun U => zc_I g h U ∧ va_Mi "[Ljava/lang/Object;" mi U)) (fun _ _ oc t => oc = .returned (some (va_rf (some h.2.1))) ∧ zc_W g (zf_new h (.inl (4, n.toNatClampNeg, .inr (.inr (.inr (.inr (va_cpy f (fun _ => none) 0 0 n0))))))) t.heap []) 1 40 (zc_A g) := by
  refine Met.ofW (cc := cJ7_copyOf_6403c) (maxL := 4) (ret := some (.array (.object "java/lang/Object"))) (by decide) rfl ?_
  intro p e s m args below meth c s₁ B hml hv
  obtain ⟨rfl, ⟨hw, hK⟩, hM⟩ := hv
  have hr := B.returns
  have hlk := B.notSynchronized
  rw [lg_entry_eq]
  have hl := lv_entry ([va_rf (some a), .int n, va_rf (some mi)]) (n := 4) (Nat.le_of_ble_eq_true rfl)
  have S : CallFix p m c cJ7_copyOf_6403c 4 s [va_rf (some a), .int n, va_rf (some mi)].toArray (zc_ws yJ7_copyOf_6403c cJ7_copyOf_6403c 4 (some (.array (.object "java/lang/Object")))) RJ7 := ⟨B.exec, B.bytes, hml, findClass_of_methodNamed B.named, atoms_spec (ws := zc_ws yJ7_copyOf_6403c cJ7_copyOf_6403c 4 (some (.array (.object "java/lang/Object")))) B.pre⟩
  have hx := S.1
  have hb := S.2.1
  have ht : ∀ {w : Cond}, w ∈ zc_T → w.before [va_rf (some a), .int n, va_rf (some mi)].toArray s = true := fun h => S.2.2.2.2 _ (List.mem_cons_of_mem _ h)
  show W p l e zr_J7_copyOf_6403c s m _ below meth c s.heap [] 0 0 _ _
  generalize (lg_sl _ ++ List.replicate _ Slot.unset).toArray = ls at hl ⊢
  have hl : lv_has ls 4 [(0, va_rf (some a)), (1, .int n), (2, va_rf (some mi))] := hl
  refine zl_aload_n hx hb zd_J7_copyOf_6403c_0 rfl (lv_at hl 2 rfl) ?_
  refine va_ldcM (C := "[Ljava/lang/Object;") hx hb S.2.2.2.1 (ht zm_h20) hM zd_J7_copyOf_6403c_1 ?_
  refine lv_acmp_ne (rx := some mi) (ry := some mi) (tgt := 13) hx hb zd_J7_copyOf_6403c_3 (by decide) (fun q => absurd rfl q) (fun _ => ?_)
  refine lv_iload_n hx hb zd_J7_copyOf_6403c_6 rfl (lv_at hl 1 rfl) ?_
  refine zw_newq (t := 4) (C := "java/lang/Object") (N := n.toNatClampNeg) (K := 40) S hK hw zm_h21 hK.2.2.2.2.2.2.2.2.2.1 rfl (Nat.le_of_ble_eq_true rfl) h0 rfl h40 (by decide) (Nat.le_of_ble_eq_true rfl) (Nat.le_of_ble_eq_true rfl) zd_J7_copyOf_6403c_7 (fun H hw2 => ?_)
  refine lv_goto (tgt := 24) hx hb zd_J7_copyOf_6403c_10 (by decide) ?_
  refine zl_astore_n (i := 3) (lv' := [(3, va_rf (some h.2.1)), (0, va_rf (some a)), (1, .int n), (2, va_rf (some mi))]) hx hb zd_J7_copyOf_6403c_24 rfl hl (by decide) rfl (fun ls hl => ?_)
  refine zl_aload_n hx hb zd_J7_copyOf_6403c_25 rfl (lv_at hl 1 rfl) ?_
  refine lv_iconst (v := 0) hx hb zd_J7_copyOf_6403c_26 (by decide) ?_
  refine zl_aload_n hx hb zd_J7_copyOf_6403c_27 rfl (lv_at hl 0 rfl) ?_
  refine lv_iconst (v := 0) hx hb zd_J7_copyOf_6403c_28 (by decide) ?_
  refine zl_aload_n hx hb zd_J7_copyOf_6403c_29 rfl (lv_at hl 1 rfl) ?_
  have hlt : a < h.2.1 := by
    have h1 := hw.arr ha 0 _ rfl
    have h2 := (Array.getElem?_eq_some_iff.mp h1).1
    rw [← hw.1]; exact h2
  have hne : a ≠ h.2.1 := by omega
  have ha2 : (zf_new h (.inl (4, n.toNatClampNeg, .inr (.inr (.inr (.inr (fun _ => none))))))).1 a = some (.inl (4, n0, .inr (.inr (.inr (.inr f))))) := by
    show va_up h.1 h.2.1 _ a = _
    rw [va_up_ne _ _ hne]
    exact ha
  have hb2 : (zf_new h (.inl (4, n.toNatClampNeg, .inr (.inr (.inr (.inr (fun _ => none))))))).1 h.2.1 = some (.inl (4, n.toNatClampNeg, .inr (.inr (.inr (.inr (fun _ => none)))))) := va_up_self _ _ _
  have hok2 : zf_ok (zf_new h (.inl (4, n.toNatClampNeg, .inr (.inr (.inr (.inr (fun _ => none))))))) f n0 = true := by
    refine List.all_eq_true.mpr fun i hi => ?_
    have hi' := List.mem_range.mp hi
    cases hy : f i with
    | none => rfl
    | some y =>
      have h1 := zf_ok_e hok hi' hy
      have hyl : y ≠ h.2.1 := by
        obtain ⟨cell, _, e1, -⟩ := zc_obj hK hw h1
        have := (Array.getElem?_eq_some_iff.mp e1).1
        rw [hw.1] at this
        omega
      have e4 : ∀ c, zf_is (zf_new h (.inl (4, n.toNatClampNeg, .inr (.inr (.inr (.inr (fun _ => none))))))) y c = zf_is h y c := fun c => by
        unfold zf_is
        rw [show (zf_new h (.inl (4, n.toNatClampNeg, .inr (.inr (.inr (.inr (fun _ => none))))))).1 y = h.1 y from va_up_ne _ _ hyl]
      simp only [e4]
      simpa using h1
  refine va_alen hx hb hK.1 (hw2.arr ha2) 0 4 rfl rfl (v := Int32.ofNat n0) rfl zd_J7_copyOf_6403c_30 ?_
  refine lv_iload_n hx hb zd_J7_copyOf_6403c_31 rfl (lv_at hl 2 rfl) ?_
  refine va_mmin hx hb (S.2.2.1.trans hl.1.symm) S.2.2.2.1 (ht zm_h22) (ht zm_h23) (ht zm_h24) (ht zm_h25) (Nat.le_of_ble_eq_true rfl) (by simp [zv_cat, zv_ci, zv_cj, zr_J7_copyOf_6403c]) (Nat.le_of_ble_eq_true rfl) (Nat.le_of_ble_eq_true rfl) zd_J7_copyOf_6403c_32 ?_
  rw [zn_min h0 hle h40]
  refine zw_cpO (a := a) (b := h.2.1) (n0 := n0) (n1 := n.toNatClampNeg) (f := f) (f1 := fun _ => none) S hK hw2 (ls_size hl) zm_h26 ha2 hb2 (nI_pos (by omega)) (nI_clamp (by omega)) hle hok2 (Nat.le_of_ble_eq_true rfl) (by simp [zv_cat, zv_ci, zv_cj, zr_J7_copyOf_6403c, nativeFrameWords]) zd_J7_copyOf_6403c_35 (fun H locs hw => ?_)
  rw [zf_up_new] at hw
  refine zl_aload_n hx hb zd_J7_copyOf_6403c_38 rfl (lv_at hl 0 rfl) ?_
  exact zw_aret (rm := zr_J7_copyOf_6403c) hx hb hr (Or.inr ⟨_, rfl⟩) hlk hw zd_J7_copyOf_6403c_39 (Nat.le_of_ble_eq_true rfl) (Nat.le_of_ble_eq_true rfl)
set_option maxHeartbeats 4000000 in
theorem zt_J7_copyOf_1904c (l : Launch) (g : zc_G) (h : zc_H) (x0 : Option Nat) (x1 : Int32) (res : zc_H × Option Nat) (hf : zf_J7_copyOf_1904c h x0 x1 = some res) : zc_M l g yJ7_copyOf_1904c cJ7_copyOf_1904c 2 (some (.array (.object "java/lang/Object"))) zr_J7_copyOf_1904c h [va_rf x0, .int x1] res.1 (some (va_rf res.2)) := by
  obtain ⟨a, hx0, hf1⟩ := zo_b hf
  subst hx0
  clear hf
  split at hf1
  case h_2 => cases hf1
  rename_i t n0 f ha
  obtain ⟨⟨ht4, h0, h40, hle, hok⟩, hf2⟩ := zo_g hf1
  subst ht4
  have hres := Option.some.inj hf2
  subst hres
  refine zc_M.of (by decide) (by simp [lg_sl, zv_cat, zv_ci, zv_cj]) ?_
  intro p e s m below meth c ls S hK hw hr hlk hnm hl
  replace S : CallFix p m c cJ7_copyOf_1904c 2 s [va_rf (some a), .int x1].toArray (zc_ws yJ7_copyOf_1904c cJ7_copyOf_1904c 2 (some (.array (.object "java/lang/Object")))) RJ7 := S
  have hx := S.1
  have hb := S.2.1
  replace hl : lv_has ls 2 [(0, va_rf (some a)), (1, .int x1)] := by simpa [lv_args, zv_cat, zv_ci, zv_cj] using hl
  have ht : ∀ {w : Cond}, w ∈ zc_T → w.before [va_rf (some a), .int x1].toArray s = true := fun h => S.2.2.2.2 _ (List.mem_cons_of_mem _ h)
  obtain ⟨mi, hM⟩ := hK.2.2.2.2.2.2.2.2.2.2
  refine zl_aload_n hx hb zd_J7_copyOf_1904c_0 rfl (lv_at hl 0 rfl) ?_
  refine lv_iload_n hx hb zd_J7_copyOf_1904c_1 rfl (lv_at hl 1 rfl) ?_
  refine zl_aload_n hx hb zd_J7_copyOf_1904c_2 rfl (lv_at hl 0 rfl) ?_
  refine va_getC (C := "[Ljava/lang/Object;") (mi := mi) hx hb (S.2.2.1.trans hl.1.symm) S.2.2.2.1 (ht zm_h27) (va_Nw.use rfl (hK.2.1 _ zm_h30)) (ht zm_h31) (ht zm_h28) (ht zm_h29) hM ⟨_, hw.arr ha 0 _ rfl, rfl, ?_⟩ (Nat.le_of_ble_eq_true rfl) (by simp [zv_cat, zv_ci, zv_cj]) zd_J7_copyOf_1904c_3 ?_
  · obtain ⟨_, _, -, -, -, h4⟩ := (hK.1.2 4 _ rfl).2
    exact h4
  refine zw_go (h2 := zf_new h (.inl (4, x1.toNatClampNeg, .inr (.inr (.inr (.inr (va_cpy f (fun _ => none) 0 0 n0))))))) (ov := some (va_rf (some h.2.1))) (va_runS (n := 3) (mc := 1) (ms := 40) (As := [va_rf (some a), .int x1, va_rf (some mi)]) (rest := []) S (zt_c3 l g h a n0 mi f x1 ha h0 h40 hle hok) ⟨callB_of 3 S.2.2.2.2 (zc_gd zq_J7_copyOf_6403c) rfl rfl rfl (ht zm_h34) (ht zm_h32) (by decide +kernel) ⟨Nat.le_of_ble_eq_true rfl, Nat.le_of_ble_eq_true rfl⟩, ht zm_h33⟩ ⟨fun av U fr mk q => ⟨q.1, zc_bl av U fr mk ⟨q.1, q.2.1⟩ |>.2, q.2.2.moved (Vm.Alike.refl U.vm)⟩, fun U hU hW => ⟨rfl, (zc_pre (av := []) hK hw U hU hW).2, hM.moved hW.alike⟩⟩ rfl rfl hl.1 rfl (by simp [F0, JFrame.monitorRoom]) zd_J7_copyOf_1904c_6 ⟨Nat.le_of_ble_eq_true rfl, Nat.le_of_ble_eq_true rfl⟩) hw (fun H locs hw => ?_)
  exact zw_aret hx hb hr (Or.inr ⟨_, rfl⟩) hlk hw zd_J7_copyOf_1904c_9 (Nat.le_of_ble_eq_true rfl) (Nat.le_of_ble_eq_true rfl)
