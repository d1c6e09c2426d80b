/-! by hand: copies of rows of longs, of lists' arrays -/
theorem zm_h0 : Cond.native arraycopyName ∈ zc_T := zc_in 407 (by decide +kernel) (by decide +kernel)
theorem zm_h1 : Cond.static arraycopyName ∈ zc_T := zc_in 406 (by decide +kernel) (by decide +kernel)
theorem zm_h2 : Cond.initialized "java/lang/System" ∈ zc_T := zc_in 81 (by decide +kernel) (by decide +kernel)
theorem zm_h3 : Cond.castable "[J" "java/lang/Cloneable" ∈ zc_N := zc_inN 519 (by decide +kernel) (by decide +kernel)
theorem zm_h4 : Cond.native ⟨"java/lang/Object", "clone", "()Ljava/lang/Object;"⟩ ∈ zc_T := zc_in 516 (by decide +kernel) (by decide +kernel)
theorem zm_h5 : Cond.instanceMethod ⟨"java/lang/Object", "clone", "()Ljava/lang/Object;"⟩ ∈ zc_T := zc_in 517 (by decide +kernel) (by decide +kernel)
theorem zm_h6 : Cond.selects "[J" ⟨"[J", "clone", "()Ljava/lang/Object;"⟩ ⟨"java/lang/Object", "clone", "()Ljava/lang/Object;"⟩ ∈ zc_T := zc_in 518 (by decide +kernel) (by decide +kernel)
theorem zm_h7 : Cond.sameMethod "[J" "java/lang/Object" "clone" "()Ljava/lang/Object;" ∈ zc_T := zc_in 515 (by decide +kernel) (by decide +kernel)
theorem zm_h8 : Cond.methodLink "java/util/Arrays" 319 ⟨"[J", "clone", "()Ljava/lang/Object;"⟩ ∈ zc_T := zc_in 514 (by decide +kernel) (by decide +kernel)
theorem zm_h9 : Cond.castable "LineRemarks$Revision" "java/lang/Object" ∈ zc_N := zc_inN 1553 (by decide +kernel) (by decide +kernel)
theorem zm_h10 : Cond.castable "LineRemarks$Remark" "java/lang/Object" ∈ zc_N := zc_inN 1554 (by decide +kernel) (by decide +kernel)
theorem zc_W.upL {g : zc_G} {h : zc_H} {H : Heap} {locs : List Loc} (hw : zc_W g h H locs) {q : Nat} {e e0 : va_E} {H1 : Heap} {L : List Loc} (hq : h.1 q = some e0) (he : zc_at g q e H1) (z : H1.size = H.size) (oq : ∀ x : Nat, x ≠ q → H1[x]? = H[x]?) (hL : ∀ l ∈ L, l.base = q) : zc_W g (zf_up h q e) H1 (locs ++ L) := by
  obtain ⟨h1, h2, h3, h4, h5, h6⟩ := hw.up (k := 0) hq he z oq
  refine ⟨h1, h2, h3, h4, h5, fun l hl => ?_⟩
  rcases List.mem_append.mp hl with h | h
  · exact h6 l (List.mem_append_left _ h)
  · rw [hL l h]
    exact h6 ⟨q, 0⟩ (List.mem_append_right _ (List.mem_singleton.mpr rfl))
theorem zn_cl {z : Int32} (hz : ¬ z < 0) : z.toInt = (z.toNatClampNeg : Int) := by
  have hz0 : (0 : Int) ≤ z.toInt := by
    have := Int32.not_lt.mp hz
    simpa using Int32.le_iff_toInt_le.mp this
  show z.toInt = ((z.toInt.toNat : Nat) : Int)
  omega
section ZH
variable {p : Program} {l : Launch} {e : Env} {R : Room} {s : State} {m : MethodId} {args : Array Value} {below : List Frame} {meth : Method} {c : Code} {H : Heap} {locs : List Loc} {cells slots : Nat} {Q : State → Prop}
variable {cc : ByteArray} {pc nL : Nat} {ls : Array Slot} {rest : List Value} {own : String} {w0 : Cond} {g : zc_G} {h h2 : zc_H} {index : Nat}
theorem zw_aastP {a v : Nat} {i : Int32} (S : CallFix p m c cc nL s args (w0 :: zc_T) own) (hK : zc_K g s) (hw : zc_W g h H locs) (hv : zf_sO h a i v = some h2) (hdg : decode cc pc = .ok (.aastore, 1))
    (kk : ∀ (H1 : Heap) (locs1 : List Loc), zc_W g h2 H1 locs1 → W p l e R s m args below meth c H1 locs1 cells slots Q (F0 m (pc + 1) ls rest)) : W p l e R s m args below meth c H locs cells slots Q (F0 m pc ls (va_rf (some v) :: .int i :: va_rf (some a) :: rest)) := zw_aastO S hK hw zm_h9 zm_h10 hv hdg kk
theorem zw_cpj {a b : Nat} {sp dp n : Int32} {y : MethodName} (S : CallFix p m c cc nL s args (w0 :: zc_T) own) (hK : zc_K g s) (hw : zc_W g h H locs) (hsz : ls.size = nL) (hlink : Cond.methodLink own index y ∈ zc_T) (hy : y = arraycopyName) (hv : zf_cpj h a sp b dp n = some h2)
    (hframes : 1 ≤ R.frames) (hlocals : (rest.map fun v => v.category).sum + (nativeFrameWords "java/lang/System" "arraycopy" 5 + 11) ≤ R.locals) (hdg : decode cc pc = .ok (.invokestatic index, 3))
    (kk : ∀ (H1 : Heap) (locs1 : List Loc), zc_W g h2 H1 locs1 → W p l e R s m args below meth c H1 locs1 cells slots Q (F0 m (pc + 3) ls rest)) : W p l e R s m args below meth c H locs cells slots Q (F0 m pc ls (.int n :: .int dp :: va_rf (some b) :: .int sp :: va_rf (some a) :: rest)) := by
  subst hy
  unfold zf_cpj at hv
  split at hv
  case h_2 => cases hv
  rename_i t0 n0 f t1 n1 f1 ha hb1
  obtain ⟨⟨ht0, ht1, h1, h2', h3, h4, h5⟩, hv2⟩ := zo_g hv
  subst ht0 ht1
  have hres := Option.some.inj hv2
  subst hres
  have ht : ∀ {w : Cond}, w ∈ zc_T → w.before args s = true := fun h => S.2.2.2.2 _ (List.mem_cons_of_mem _ h)
  have hc0 : H[a]? = some (vp_cell (g.2.1 1) (n0, .inr (.inl f))) := hw.arr ha 0 _ rfl
  have hc1 : H[b]? = some (vp_cell (g.2.1 1) (n1, .inr (.inl f1))) := hw.arr hb1 0 _ rfl
  obtain ⟨-, k0, hk0, cm0, hkk0⟩ := (hK.1.2 1 _ rfl).1 n0 (fun j => .long (f j))
  intro T hT X
  obtain ⟨vm', X', step⟩ := X.arraycopy S.1 S.2.2.2.1 (ht hlink) (ht zm_h0) (ht zm_h1) (ht zm_h2) (src := a) (dst := b) (cs := vp_cell (g.2.1 1) (n0, .inr (.inl f))) (cd := vp_cell (g.2.1 1) (n1, .inr (.inl f1))) (srcPos := sp) (destPos := dp) (n := n) (by rw [hT]; exact hc0) (by rw [hT]; exact hc1)
    (fun _ h => by cases h) (fun _ h => by cases h) (fun h => by cases h) (fun h => by cases h) hk0 hk0 hkk0 hkk0 rfl h1 h2' h3
    (by rw [zn_cl h1, zn_cl h3]; show ¬ _ > ((arrV (g.2.1 1) n0 (fun j => .long (f j))).slots.size : Int); rw [arrV_size]; omega)
    (by rw [zn_cl h2', zn_cl h3]; show ¬ _ > ((arrV (g.2.1 1) n1 (fun j => .long (f1 j))).slots.size : Int); rw [arrV_size]; omega)
    (fun vm₁ _ i hi => by
      have e : (vp_cell (g.2.1 1) (n0, .inr (.inl f))).slots.getD (sp.toNatClampNeg + i) .null = .long (f (sp.toNatClampNeg + i)) := by
        show (arrV (g.2.1 1) n0 (fun j => .long (f j))).slots.getD _ _ = _
        rw [Array.getD_eq_getD_getElem?, arrV_read _ _ (by omega)]
        rfl
      rw [e]
      exact ⟨rfl, trivial⟩)
    (g := F0 m pc ls (.int n :: .int dp :: va_rf (some b) :: .int sp :: va_rf (some a) :: rest)) rfl (by rw [S.2.2.1]; exact hsz) (rest := rest) rfl (by rw [S.2.1]; exact hdg) hframes (by show 2 * 0 + _ + _ ≤ _; omega)
  have e1 : copied (vp_cell (g.2.1 1) (n0, .inr (.inl f))) (vp_cell (g.2.1 1) (n1, .inr (.inl f1))) sp dp n = vp_cell (g.2.1 1) (n1, .inr (.inl (va_cpy f f1 sp.toNatClampNeg dp.toNatClampNeg n.toNatClampNeg))) := va_copied (fun z => .long z) _ _ f f1 h4
  rw [e1] at X' step
  have hl : b < T.heap.size := by rw [hT]; exact (Array.getElem?_eq_some_iff.mp hc1).1
  subst hT
  have hwn : ∀ L : List Loc, (∀ q ∈ L, q.base = b) → zc_W g (zf_up h b (.inl (1, n1, .inr (.inl (va_cpy f f1 sp.toNatClampNeg dp.toNatClampNeg n.toNatClampNeg))))) ((T.setVm vm').setCell b (vp_cell (g.2.1 1) (n1, .inr (.inl (va_cpy f f1 sp.toNatClampNeg dp.toNatClampNeg n.toNatClampNeg))))).heap (locs ++ L) := fun L hL =>
    hw.upL hb1 (e := .inl (1, n1, .inr (.inl (va_cpy f f1 sp.toNatClampNeg dp.toNatClampNeg n.toNatClampNeg)))) ⟨Nat.le_of_ble_eq_true rfl, heapAt_setCell_self (s := T.setVm vm') _ hl⟩ (size_setCell (T.setVm vm') _ _) (fun x hx => heapAt_setCell_ne (s := T.setVm vm') _ (Ne.symm hx)) hL
  obtain ⟨t, a1, b1⟩ := kk _ _ (hwn _ (by
    intro q hq
    obtain ⟨z, -, hz⟩ := List.mem_map.mp hq
    rw [← hz])) _ rfl X'
  exact ⟨t, step t a1, b1⟩
theorem zw_clj {a : Nat} (S : CallFix p m c cc nL s args (w0 :: zc_T) "java/util/Arrays") (hK : zc_K g s) (hw : zc_W g h H locs) (hsz : ls.size = nL) (hv : zf_clj h a = some h2)
    (hframes : 1 ≤ R.frames) (hlocals : (rest.map fun v => v.category).sum + 14 ≤ R.locals) (hdg : decode cc pc = .ok (.invokevirtual 319, 3)) (hcells : cells + 1 ≤ R.cells) (hslots : slots + 40 ≤ R.slots)
    (kk : ∀ (H1 : Heap), zc_W g h2 H1 locs → W p l e R s m args below meth c H1 locs (cells + 1) (slots + 40) Q (F0 m (pc + 3) ls (va_rf (some h.2.1) :: rest))) : W p l e R s m args below meth c H locs cells slots Q (F0 m pc ls (va_rf (some a) :: rest)) := by
  obtain ⟨n, f, ha, hn, rfl⟩ := zf_clj_e hv
  have ht : ∀ {w : Cond}, w ∈ zc_T → w.before args s = true := fun h => S.2.2.2.2 _ (List.mem_cons_of_mem _ h)
  have hnm : s.vm.findClass "[J" = some (g.2.1 1) := (hK.1.2 1 _ rfl).2
  obtain ⟨c0, t0', f1, f2, f3⟩ := Cond.castable_spec (va_Nw.use (A := args) rfl (hK.2.1 _ zm_h3))
  have hc0 : c0 = g.2.1 1 := Option.some.inj (f1.symm.trans hnm)
  subst hc0
  have hc1 : H[a]? = some (vp_cell (g.2.1 1) (n, .inr (.inl f))) := hw.arr ha 0 _ rfl
  intro T hT X
  obtain ⟨-, kA, hkA, comp, hkind⟩ := State.isArrayOf_alike X.warmed.alike ((hK.1.2 1 _ rfl).1 0 (fun _ => .null))
  obtain ⟨-, kS, hkS, compS, hkindS⟩ := (hK.1.2 1 _ rfl).1 0 (fun _ => .null)
  obtain ⟨vm', X', st⟩ := X.cloneArray S.1 S.2.2.2.1 (ht zm_h8) (ht zm_h7) (ht zm_h4) (ht zm_h5) (ht zm_h6) (a := a) (cell := vp_cell (g.2.1 1) (n, .inr (.inl f))) (by rw [hT]; exact hc1) (fun k h => by cases h) (fun h => by cases h) hnm f2 f3
    (fun i v hv => by
      have hk' : T.vm.classes[g.2.1 1]? = some kA := hkA
      have hi : i < n := by
        have := (Array.getElem?_eq_some_iff.mp hv).1
        rwa [vp_cell_l, arrV_size] at this
      rw [vp_cell_l, arrV_read _ _ hi] at hv
      cases Option.some.inj hv
      show T.fitsSlot (g.2.1 1) .none i _ = true
      simp [State.fitsSlot, State.slotType?, hk', hkind, fits])
    (g := F0 m pc ls (va_rf (some a) :: rest)) rfl (by rw [S.2.2.1]; exact hsz) rfl (by rw [S.2.1]; exact hdg) hframes (by show 2 * 0 + _ + 14 ≤ _; omega) hcells (by rw [vp_cell_l, arrV_size]; omega) (hloader := Vm.clonesLoader_of_array hkS hkindS)
  have hsz1 : (vp_cell (g.2.1 1) (n, .inr (.inl f))).slots.size = n := arrV_size _ _ _
  rw [hsz1] at X'
  have X2 := stand_widen X' (Nat.le_refl (cells + 1)) (show slots + n ≤ slots + 40 by omega)
  subst hT
  obtain ⟨t, b1, b2⟩ := kk _ (hw.push (e := .inl (1, n, .inr (.inl f))) (H1 := T.heap.push (vp_cell (g.2.1 1) (n, .inr (.inl f)))) ⟨Nat.le_of_ble_eq_true rfl, by rw [← hw.1, Array.getElem?_push_size]⟩ (by simp) (fun x hx => by rw [Array.getElem?_push, if_neg (Nat.ne_of_lt hx)])) _ rfl X2
  refine ⟨t, st t ?_, b2⟩
  rw [hw.1]
  exact b1
end ZH
