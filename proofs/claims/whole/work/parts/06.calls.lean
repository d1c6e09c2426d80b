/-! rows: calls, new arrays, statics, JDK's natives -/
section ZB
variable {p : Program} {l : Launch} {e : Env} {R : Room} {s : State} {m : MethodId} {args : Array Value} {below : List Frame} {meth : Method} {c : Code} {H : Heap} {locs : List Loc} {cells slots : Nat} {Q : State → Prop}
variable {cc : ByteArray} {pc nL : Nat} {ls : Array Slot} {rest st0 : List Value} {own : String} {w0 : Cond} {g : zc_G} {h h2 : zc_H} {index : Nat}
theorem zw_go {mc ms : Nat} {ov : Option Value} (hr : va_Run p l e R s m args below meth c H locs cells slots mc ms (F0 m pc ls st0) rest (fun _ oc t => oc = .returned ov ∧ zc_W g h2 t.heap []) (zc_A g)) (hw : zc_W g h H locs)
    (kk : ∀ (H1 : Heap) (locs1 : List Loc), zc_W g h2 H1 locs1 → W p l e R s m args below meth c H1 locs1 (cells + mc) (slots + ms) Q (F0 m (pc + 3) ls (ov.toList ++ rest))) : W p l e R s m args below meth c H locs cells slots Q (F0 m pc ls st0) := by
  intro T hT X
  obtain ⟨v, st₀, t, T', L, h0, X', hL, e1, e2, ⟨hv, hw2⟩, st⟩ := hr T hT X
  cases hv
  obtain ⟨g1, g2, g3, g4, g5, g6⟩ := hw2
  obtain ⟨t2, a1, b1⟩ := kk T'.heap (locs ++ L) (by
    rw [e1]
    exact ⟨g1, g2, g3, g4, g5, fun q hq => by
      rcases List.mem_append.mp hq with h | h
      · exact hw.2.2.2.2.2 q h
      · exact hL q h⟩) T' rfl X'
  exact ⟨t2, st t2 a1, b1⟩
theorem zc_pre (hK : zc_K g s) (hw : zc_W g h H locs) {av : List Value} (U : State) (hU : U.heap = H) (hW : s.WarmedH U.vm) : va_Pc av (zc_I g h) av.toArray U :=
  ⟨rfl, ⟨by rw [hU]; exact ⟨hw.1, hw.2.1, hw.2.2.1, hw.2.2.2.1, hw.2.2.2.2.1, fun l hl => by cases hl⟩, hK.warm hW⟩⟩
theorem zc_rcv {b ci : Nat} {q : vw_C} (hK : zc_K g s) (hw : zc_W g h H locs) (hc : zc_cl[ci]? = some q) (hb : zf_is h b ci = true) : ∃ cell : Cell, H[b]? = some cell ∧ cell.vm.isStatics = false ∧ s.vm.findClass q.1 = some cell.cls := by
  obtain ⟨fs, hf⟩ := zf_is_e hb
  exact va_recv (q0 := 0) hK.1 (hw.obj hf) hc rfl
variable {y : MethodName} {bytes : ByteArray} {maxL n b : Nat} {ret : Option FieldType} {rm : Room} {As : List Value} {ov : Option Value}
theorem zw_callV {ci : Nat} {q : vw_C} (S : CallFix p m c cc nL s args (w0 :: zc_T) own) (hK : zc_K g s) (hw : zc_W g h H locs) (hM : zc_M l g y bytes maxL ret rm h (va_rf (some b) :: As) h2 ov)
    (hl : Cond.methodLink own index y ∈ zc_T) (hin : Cond.instanceMethod y ∈ zc_T) (hse : Cond.selects y.cls y y ∈ zc_T) (hco : Cond.code y bytes maxL ret ∈ zc_T) (hini : Cond.initialized y.cls ∈ zc_T)
    (hd : y.cls ≠ "java/lang/invoke/MethodHandle" ∧ y.cls ≠ "java/lang/invoke/VarHandle" ∧ (parseMethodDescriptor y.desc).map (fun d => d.parameters.length) = some n) (hR : rm.frames + 1 ≤ R.frames ∧ 8 + (maxL + 11) + rm.locals ≤ R.locals)
    (hn : As.length = n) (hc : zc_cl[ci]? = some q) (hq : q.1 = y.cls) (hrc : zf_is h b ci = true) (hsz : ls.size = nL) (hst : st0 = As.reverse ++ va_rf (some b) :: rest) (hrm : (rest.map fun v => v.category).sum ≤ 8) (hdg : decode cc pc = .ok (.invokevirtual index, 3)) (hf : cells + rm.cells ≤ R.cells ∧ slots + rm.slots ≤ R.slots)
    (kk : ∀ (H1 : Heap) (locs1 : List Loc), zc_W g h2 H1 locs1 → W p l e R s m args below meth c H1 locs1 (cells + rm.cells) (slots + rm.slots) Q (F0 m (pc + 3) ls (ov.toList ++ rest))) : W p l e R s m args below meth c H locs cells slots Q (F0 m pc ls st0) := by
  have ht : ∀ {w : Cond}, w ∈ zc_T → w.before args s = true := fun h => S.2.2.2.2 _ (List.mem_cons_of_mem _ h)
  refine zw_go (va_runV (C := y.cls) (n := n) (mc := rm.cells) (ms := rm.slots) (As := As) (rest := rest) (b := b) S hM ⟨callB_of n S.2.2.2.2 (zc_gd hco) rfl rfl rfl (ht hini) (ht hl) hd hR, ht hin, ht hse⟩ ⟨zc_bl, ?_, zc_pre hK hw⟩ rfl hn hsz hst (by simpa [F0] using hrm) hdg hf) hw kk
  rw [← hq]
  exact zc_rcv hK hw hc hrc
theorem zw_callVN {ci : Nat} {q : vw_C} {host : String} (S : CallFix p m c cc nL s args (w0 :: zc_T) own) (hK : zc_K g s) (hw : zc_W g h H locs) (hM : zc_M l g y bytes maxL ret rm h (va_rf (some b) :: As) h2 ov)
    (hl : Cond.methodLinkNest own index y host ∈ zc_N) (hin : Cond.instanceMethod y ∈ zc_T) (hse : Cond.selects y.cls y y ∈ zc_T) (hco : Cond.code y bytes maxL ret ∈ zc_T) (hini : Cond.initialized y.cls ∈ zc_T)
    (hd : y.cls ≠ "java/lang/invoke/MethodHandle" ∧ y.cls ≠ "java/lang/invoke/VarHandle" ∧ (parseMethodDescriptor y.desc).map (fun d => d.parameters.length) = some n) (hR : rm.frames + 1 ≤ R.frames ∧ 8 + (maxL + 11) + rm.locals ≤ R.locals)
    (hn : As.length = n) (hc : zc_cl[ci]? = some q) (hq : q.1 = y.cls) (hrc : zf_is h b ci = true) (hsz : ls.size = nL) (hst : st0 = As.reverse ++ va_rf (some b) :: rest) (hrm : (rest.map fun v => v.category).sum ≤ 8) (hdg : decode cc pc = .ok (.invokevirtual index, 3)) (hf : cells + rm.cells ≤ R.cells ∧ slots + rm.slots ≤ R.slots)
    (kk : ∀ (H1 : Heap) (locs1 : List Loc), zc_W g h2 H1 locs1 → W p l e R s m args below meth c H1 locs1 (cells + rm.cells) (slots + rm.slots) Q (F0 m (pc + 3) ls (ov.toList ++ rest))) : W p l e R s m args below meth c H locs cells slots Q (F0 m pc ls st0) := by
  have ht : ∀ {w : Cond}, w ∈ zc_T → w.before args s = true := fun h => S.2.2.2.2 _ (List.mem_cons_of_mem _ h)
  refine zw_go (va_runVN (C := y.cls) (host := host) (n := n) (mc := rm.cells) (ms := rm.slots) (As := As) (rest := rest) (b := b) S hM ⟨va_cnB n S.2.2.2.2 (zc_gd hco) rfl rfl rfl (hK.2.1 _ hl) (ht hini) hd hR, ht hin, ht hse⟩ ⟨zc_bl, ?_, zc_pre hK hw⟩ rfl hn hsz hst (by simpa [F0] using hrm) hdg hf) hw kk
  rw [← hq]
  exact zc_rcv hK hw hc hrc
theorem zw_callS (S : CallFix p m c cc nL s args (w0 :: zc_T) own) (hK : zc_K g s) (hw : zc_W g h H locs) (hM : zc_M l g y bytes maxL ret rm h As h2 ov)
    (hl : Cond.methodLink own index y ∈ zc_T) (hin : Cond.static y ∈ zc_T) (hco : Cond.code y bytes maxL ret ∈ zc_T) (hini : Cond.initialized y.cls ∈ zc_T)
    (hd : y.cls ≠ "java/lang/invoke/MethodHandle" ∧ y.cls ≠ "java/lang/invoke/VarHandle" ∧ (parseMethodDescriptor y.desc).map (fun d => d.parameters.length) = some n) (hR : rm.frames + 1 ≤ R.frames ∧ 8 + (maxL + 11) + rm.locals ≤ R.locals)
    (hn : As.length = n) (hsz : ls.size = nL) (hst : st0 = As.reverse ++ rest) (hrm : (rest.map fun v => v.category).sum ≤ 8) (hdg : decode cc pc = .ok (.invokestatic index, 3)) (hf : cells + rm.cells ≤ R.cells ∧ slots + rm.slots ≤ R.slots)
    (kk : ∀ (H1 : Heap) (locs1 : List Loc), zc_W g h2 H1 locs1 → W p l e R s m args below meth c H1 locs1 (cells + rm.cells) (slots + rm.slots) Q (F0 m (pc + 3) ls (ov.toList ++ rest))) : W p l e R s m args below meth c H locs cells slots Q (F0 m pc ls st0) := by
  have ht : ∀ {w : Cond}, w ∈ zc_T → w.before args s = true := fun h => S.2.2.2.2 _ (List.mem_cons_of_mem _ h)
  exact zw_go (va_runS (n := n) (mc := rm.cells) (ms := rm.slots) (As := As) (rest := rest) S hM ⟨callB_of n S.2.2.2.2 (zc_gd hco) rfl rfl rfl (ht hini) (ht hl) hd hR, ht hin⟩ ⟨zc_bl, zc_pre hK hw⟩ rfl hn hsz hst (by simpa [F0] using hrm) hdg hf) hw kk
theorem zw_callSN {host : String} (S : CallFix p m c cc nL s args (w0 :: zc_T) own) (hK : zc_K g s) (hw : zc_W g h H locs) (hM : zc_M l g y bytes maxL ret rm h As h2 ov)
    (hl : Cond.methodLinkNest own index y host ∈ zc_N) (hin : Cond.static y ∈ zc_T) (hco : Cond.code y bytes maxL ret ∈ zc_T) (hini : Cond.initialized y.cls ∈ zc_T)
    (hd : y.cls ≠ "java/lang/invoke/MethodHandle" ∧ y.cls ≠ "java/lang/invoke/VarHandle" ∧ (parseMethodDescriptor y.desc).map (fun d => d.parameters.length) = some n) (hR : rm.frames + 1 ≤ R.frames ∧ 8 + (maxL + 11) + rm.locals ≤ R.locals)
    (hn : As.length = n) (hsz : ls.size = nL) (hst : st0 = As.reverse ++ rest) (hrm : (rest.map fun v => v.category).sum ≤ 8) (hdg : decode cc pc = .ok (.invokestatic index, 3)) (hf : cells + rm.cells ≤ R.cells ∧ slots + rm.slots ≤ R.slots)
    (kk : ∀ (H1 : Heap) (locs1 : List Loc), zc_W g h2 H1 locs1 → W p l e R s m args below meth c H1 locs1 (cells + rm.cells) (slots + rm.slots) Q (F0 m (pc + 3) ls (ov.toList ++ rest))) : W p l e R s m args below meth c H locs cells slots Q (F0 m pc ls st0) := by
  have ht : ∀ {w : Cond}, w ∈ zc_T → w.before args s = true := fun h => S.2.2.2.2 _ (List.mem_cons_of_mem _ h)
  exact zw_go (va_runSN (host := host) (n := n) (mc := rm.cells) (ms := rm.slots) (As := As) (rest := rest) S hM ⟨va_cnB n S.2.2.2.2 (zc_gd hco) rfl rfl rfl (hK.2.1 _ hl) (ht hini) hd hR, ht hin, trivial⟩ ⟨zc_bl, zc_pre hK hw⟩ rfl hn hsz hst (by simpa [F0] using hrm) hdg hf) hw kk
theorem zw_callI (S : CallFix p m c cc nL s args (w0 :: zc_T) own) (hK : zc_K g s) (hw : zc_W g h H locs) (hM : zc_M l g y bytes maxL none rm h (va_rf (some b) :: As) h2 ov) (hy1 : y.name = "<init>")
    (hl : Cond.methodLink own index y ∈ zc_T) (hin : Cond.instanceMethod y ∈ zc_T) (hco : Cond.code y bytes maxL none ∈ zc_T) (hini : Cond.initialized y.cls ∈ zc_T)
    (hd : y.cls ≠ "java/lang/invoke/MethodHandle" ∧ y.cls ≠ "java/lang/invoke/VarHandle" ∧ (parseMethodDescriptor y.desc).map (fun d => d.parameters.length) = some n) (hR : rm.frames + 1 ≤ R.frames ∧ 8 + (maxL + 11) + rm.locals ≤ R.locals)
    (hn : As.length = n) (hsz : ls.size = nL) (hst : st0 = As.reverse ++ va_rf (some b) :: rest) (hrm : (rest.map fun v => v.category).sum ≤ 8) (hdg : decode cc pc = .ok (.invokespecial index, 3)) (hf : cells + rm.cells ≤ R.cells ∧ slots + rm.slots ≤ R.slots)
    (kk : ∀ (H1 : Heap) (locs1 : List Loc), zc_W g h2 H1 locs1 → W p l e R s m args below meth c H1 locs1 (cells + rm.cells) (slots + rm.slots) Q (F0 m (pc + 3) ls (ov.toList ++ rest))) : W p l e R s m args below meth c H locs cells slots Q (F0 m pc ls st0) := by
  have ht : ∀ {w : Cond}, w ∈ zc_T → w.before args s = true := fun h => S.2.2.2.2 _ (List.mem_cons_of_mem _ h)
  exact zw_go (va_runI (n := n) (mc := rm.cells) (ms := rm.slots) (As := As) (rest := rest) (b := b) S hM ⟨callB_of n S.2.2.2.2 (zc_gd hco) rfl rfl rfl (ht hini) (ht hl) hd hR, hy1, ht hin⟩ ⟨zc_bl, zc_pre hK hw⟩ rfl hn hsz hst (by simpa [F0] using hrm) hdg hf) hw kk
theorem zw_callIN {host : String} (S : CallFix p m c cc nL s args (w0 :: zc_T) own) (hK : zc_K g s) (hw : zc_W g h H locs) (hM : zc_M l g y bytes maxL none rm h (va_rf (some b) :: As) h2 ov) (hy1 : y.name = "<init>")
    (hl : Cond.methodLinkNest own index y host ∈ zc_N) (hin : Cond.instanceMethod y ∈ zc_T) (hco : Cond.code y bytes maxL none ∈ zc_T) (hini : Cond.initialized y.cls ∈ zc_T)
    (hd : y.cls ≠ "java/lang/invoke/MethodHandle" ∧ y.cls ≠ "java/lang/invoke/VarHandle" ∧ (parseMethodDescriptor y.desc).map (fun d => d.parameters.length) = some n) (hR : rm.frames + 1 ≤ R.frames ∧ 8 + (maxL + 11) + rm.locals ≤ R.locals)
    (hn : As.length = n) (hsz : ls.size = nL) (hst : st0 = As.reverse ++ va_rf (some b) :: rest) (hrm : (rest.map fun v => v.category).sum ≤ 8) (hdg : decode cc pc = .ok (.invokespecial index, 3)) (hf : cells + rm.cells ≤ R.cells ∧ slots + rm.slots ≤ R.slots)
    (kk : ∀ (H1 : Heap) (locs1 : List Loc), zc_W g h2 H1 locs1 → W p l e R s m args below meth c H1 locs1 (cells + rm.cells) (slots + rm.slots) Q (F0 m (pc + 3) ls (ov.toList ++ rest))) : W p l e R s m args below meth c H locs cells slots Q (F0 m pc ls st0) := by
  have ht : ∀ {w : Cond}, w ∈ zc_T → w.before args s = true := fun h => S.2.2.2.2 _ (List.mem_cons_of_mem _ h)
  exact zw_go (va_runIN (host := host) (n := n) (mc := rm.cells) (ms := rm.slots) (As := As) (rest := rest) (b := b) S hM ⟨va_cnB n S.2.2.2.2 (zc_gd hco) rfl rfl rfl (hK.2.1 _ hl) (ht hini) hd hR, hy1, ht hin⟩ ⟨zc_bl, zc_pre hK hw⟩ rfl hn hsz hst (by simpa [F0] using hrm) hdg hf) hw kk
end ZB
