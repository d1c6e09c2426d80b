/-! rows: references on the stack and in locals, statics, new arrays, copies, returns, the frame of a method's proof -/
def zc_Q (g : zc_G) (below : List Frame) (rm : Room) (ov : Option Value) (h2 : zc_H) (av : List Value) (s : State) : State → Prop := MQ below (fun _ _ oc t => oc = .returned ov ∧ zc_W g h2 t.heap []) av.toArray s rm.cells rm.slots (zc_A g)
section ZD
variable {p : Program} {l : Launch} {e : Env} {R : Room} {s : State} {m : MethodId} {args : Array Value} {below : List Frame} {meth : Method} {c : Code} {H : Heap} {locs : List Loc} {cells slots : Nat} {Q : State → Prop}
variable {cc : ByteArray} {pc nL : Nat} {ls : Array Slot} {rest : List Value} {own : String} {w0 : Cond} {g : zc_G} {h h2 : zc_H} {index : Nat}
theorem zl_aload_n (hexec : p.tables.exec = Jvm.exec) (hb : c.code = cc) {k : Fin 4} {i : Nat} {r : Option Nat} (hdg : decode cc pc = .ok (.aload_n k, 1)) (hi : (k : Nat) = i) (hl : ls[i]? = some (.val (va_rf r)))
    (kk : W p l e R s m args below meth c H locs cells slots Q (F0 m (pc + 1) ls (va_rf r :: rest))) : W p l e R s m args below meth c H locs cells slots Q (F0 m pc ls rest) := by
  cases r with
  | none => exact lv_aload_nN hexec hb hdg hi hl kk
  | some x => exact lv_aload_n hexec hb hdg hi hl kk
theorem zl_aload (hexec : p.tables.exec = Jvm.exec) (hb : c.code = cc) {i : Nat} {r : Option Nat} (hdg : decode cc pc = .ok (.aload i, 2)) (hl : ls[i]? = some (.val (va_rf r)))
    (kk : W p l e R s m args below meth c H locs cells slots Q (F0 m (pc + 2) ls (va_rf r :: rest))) : W p l e R s m args below meth c H locs cells slots Q (F0 m pc ls rest) := by
  cases r with
  | none => exact lv_aloadN hexec hb hdg hl kk
  | some x => exact lv_aload hexec hb hdg hl kk
theorem zl_astore_n (hexec : p.tables.exec = Jvm.exec) (hb : c.code = cc) {k : Fin 4} {i : Nat} {r : Option Nat} {lv lv' : List (Nat × Value)} (hdg : decode cc pc = .ok (.astore_n k, 1)) (hi : (k : Nat) = i) (h : lv_has ls nL lv) (hn : i < nL) (hl : (i, va_rf r) :: lv.filter (fun q => !(q.1 == i) && !(q.1 + 1 == i && q.2.category == 2)) = lv')
    (kk : ∀ ls' : Array Slot, lv_has ls' nL lv' → W p l e R s m args below meth c H locs cells slots Q (F0 m (pc + 1) ls' rest)) : W p l e R s m args below meth c H locs cells slots Q (F0 m pc ls (va_rf r :: rest)) := by
  cases r with
  | none => exact lv_astore_nN hexec hb hdg hi h hn hl kk
  | some x => exact lv_astore_n hexec hb hdg hi h hn hl kk
theorem zl_astore (hexec : p.tables.exec = Jvm.exec) (hb : c.code = cc) {i : Nat} {r : Option Nat} {lv lv' : List (Nat × Value)} (hdg : decode cc pc = .ok (.astore i, 2)) (h : lv_has ls nL lv) (hn : i < nL) (hl : (i, va_rf r) :: lv.filter (fun q => !(q.1 == i) && !(q.1 + 1 == i && q.2.category == 2)) = lv')
    (kk : ∀ ls' : Array Slot, lv_has ls' nL lv' → W p l e R s m args below meth c H locs cells slots Q (F0 m (pc + 2) ls' rest)) : W p l e R s m args below meth c H locs cells slots Q (F0 m pc ls (va_rf r :: rest)) := by
  cases r with
  | none => exact lv_astoreN hexec hb hdg h hn hl kk
  | some x => exact lv_astore hexec hb hdg h hn hl kk
theorem zl_ifnull (hexec : p.tables.exec = Jvm.exec) (hb : c.code = cc) {r : Option Nat} {off : Int} {tgt : Nat} (hdg : decode cc pc = .ok (.ifnull off, 3)) (ht : (pc : Int) + off = (tgt : Int))
    (kt : r = none → W p l e R s m args below meth c H locs cells slots Q (F0 m tgt ls rest)) (kf : ¬ r = none → W p l e R s m args below meth c H locs cells slots Q (F0 m (pc + 3) ls rest)) : W p l e R s m args below meth c H locs cells slots Q (F0 m pc ls (va_rf r :: rest)) := by
  cases r with
  | none => exact lv_ifnullN hexec hb hdg ht (kt rfl)
  | some x => exact lv_ifnull hexec hb hdg (kf (fun h => by cases h))
theorem zl_ifnonnull (hexec : p.tables.exec = Jvm.exec) (hb : c.code = cc) {r : Option Nat} {off : Int} {tgt : Nat} (hdg : decode cc pc = .ok (.ifnonnull off, 3)) (ht : (pc : Int) + off = (tgt : Int))
    (kt : ¬ r = none → W p l e R s m args below meth c H locs cells slots Q (F0 m tgt ls rest)) (kf : r = none → W p l e R s m args below meth c H locs cells slots Q (F0 m (pc + 3) ls rest)) : W p l e R s m args below meth c H locs cells slots Q (F0 m pc ls (va_rf r :: rest)) := by
  cases r with
  | none => exact lv_ifnonnullN hexec hb hdg (kf rfl)
  | some x => exact lv_ifnonnull hexec hb hdg ht (kt (fun h => by cases h))
theorem zl_null (hexec : p.tables.exec = Jvm.exec) (hb : c.code = cc) (hdg : decode cc pc = .ok (.aconst_null, 1))
    (k : W p l e R s m args below meth c H locs cells slots Q (F0 m (pc + 1) ls (va_rf none :: rest))) : W p l e R s m args below meth c H locs cells slots Q (F0 m pc ls rest) := lv_null hexec hb hdg k
theorem zw_gets {C n d ref : String} {v : Value} (S : CallFix p m c cc nL s args (w0 :: zc_T) own) (hw : zc_W g h H locs) (hZ : va_Z C n d v (zc_A g) s g.2.2.1.2) (hlink : Cond.fieldLink own index C n d ∈ zc_T) (hdg : decode cc pc = .ok (.getstatic index, 3))
    (kk : W p l e R s m args below meth c H locs cells slots Q (F0 m (pc + 3) ls (v :: rest))) : W p l e R s m args below meth c H locs cells slots Q (F0 m pc ls rest) := by
  obtain ⟨cf, kf, fi, f, a, cell, h1, h2, h3, h4, h5, h6, h7, h8⟩ := hZ
  exact W.gets S.1 S.2.1 S.2.2.2.1 (S.2.2.2.2 _ (List.mem_cons_of_mem _ hlink)) h1 h2 h3 h4 (by rw [hw.2.2.2.1 a (Nat.not_le.mp h8)]; exact h5) (fun e => by rw [e] at h6; cases h6) h7 rfl hdg kk
theorem zw_getsN {C n d host : String} {v : Value} (S : CallFix p m c cc nL s args (w0 :: zc_T) own) (hK : zc_K g s) (hw : zc_W g h H locs) (hZ : va_Z C n d v (zc_A g) s g.2.2.1.2) (hlink : Cond.fieldLinkNest own index C n d host ∈ zc_N) (hdg : decode cc pc = .ok (.getstatic index, 3))
    (kk : W p l e R s m args below meth c H locs cells slots Q (F0 m (pc + 3) ls (v :: rest))) : W p l e R s m args below meth c H locs cells slots Q (F0 m pc ls rest) := by
  obtain ⟨cf, kf, fi, f, a, cell, h1, h2, h3, h4, h5, h6, h7, h8⟩ := hZ
  exact va_WgetsN S.1 S.2.1 S.2.2.2.1 (va_Nw.use rfl (hK.2.1 _ hlink)) h1 h2 h3 h4 (by rw [hw.2.2.2.1 a (Nat.not_le.mp h8)]; exact h5) (fun e => by rw [e] at h6; cases h6) h7 rfl hdg kk
theorem zw_ti {t N : Nat} {f : Nat → Int32} (S : CallFix p m c cc nL s args (w0 :: zc_T) own) (hw : zc_W g h H locs) (hT : va_T .int t N (fun j => .int (f j)) (zc_A g) s g.2.2.1.2) {i : Int32} (hin : vp_in i N) (hdg : decode cc pc = .ok (.iaload, 1))
    (kk : W p l e R s m args below meth c H locs cells slots Q (F0 m (pc + 1) ls (.int (f i.toNatClampNeg) :: rest))) : W p l e R s m args below meth c H locs cells slots Q (F0 m pc ls (.int i :: .ref t :: rest)) := by
  obtain ⟨cell, h1, h2, h3, h4, h5, h6, h7⟩ := hT
  have hlt : i.toNatClampNeg < N := Nat.not_le.mp fun q => hin (Or.inr q)
  exact W.iald (v := .int (f i.toNatClampNeg)) S.1 S.2.1 (by rw [hw.2.2.2.1 t (Nat.not_le.mp h7)]; exact h1) h2 h3 (fun q => q.elim (fun z => hin (Or.inl z)) (fun z => by omega)) (by rw [h6 _ hlt]) rfl rfl hdg kk
theorem zw_tlen {ty : FieldType} {t N : Nat} {f : Nat → Value} (S : CallFix p m c cc nL s args (w0 :: zc_T) own) (hw : zc_W g h H locs) (hT : va_T ty t N f (zc_A g) s g.2.2.1.2) (hdg : decode cc pc = .ok (.arraylength, 1))
    (kk : W p l e R s m args below meth c H locs cells slots Q (F0 m (pc + 1) ls (.int (Int32.ofNat N) :: rest))) : W p l e R s m args below meth c H locs cells slots Q (F0 m pc ls (.ref t :: rest)) := by
  obtain ⟨cell, h1, h2, h3, h4, h5, h6, h7⟩ := hT
  exact W.alen (n := Int32.ofNat N) S.1 S.2.1 (by rw [hw.2.2.2.1 t (Nat.not_le.mp h7)]; exact h1) h2 h5 rfl rfl hdg kk
/-- a new array of numbers; K: its kind, M: what a run of ours never passes -/
theorem zw_newa {atype : ArrayType} {t : Nat} {a0 : vp_A} {ty : FieldType} {n : Int32} {N K : Nat} (S : CallFix p m c cc nL s args (w0 :: zc_T) own) (hK : zc_K g s) (hw : zc_W g h H locs) (hT : Cond.arrayClass ty ∈ zc_T) (hty : newarray.typeOf atype = ty) (htys : (zc_tys g)[t]? = some (g.2.1 t, ty)) (ht5 : t < 5) (hnr : va_RA s (g.2.1 t) ty → s.vm.findClass ("[" ++ ty.toString) = some (g.2.1 t))
    (ha : ∀ cA : ClassId, vp_cell cA a0 = arrV cA N (fun _ => defaultValue ty)) (hn : ¬ n < 0) (hN : n.toNatClampNeg = N) (hle : N ≤ K) (hb8 : K * componentBytes ty ≤ 536870912) (hcells : cells + 1 ≤ R.cells) (hslots : slots + K ≤ R.slots) (hdg : decode cc pc = .ok (.newarray atype, 2))
    (kk : ∀ H1 : Heap, zc_W g (zf_new h (.inl (t, a0))) H1 locs → W p l e R s m args below meth c H1 locs (cells + 1) (slots + K) Q (F0 m (pc + 2) ls (va_rf (some h.2.1) :: rest))) : W p l e R s m args below meth c H locs cells slots Q (F0 m pc ls (.int n :: rest)) := by
  subst hty
  refine va_newaK S.1 S.2.1 (S.2.2.2.2 _ (List.mem_cons_of_mem _ hT)) rfl hdg rfl hn hN (Nat.le_trans (Nat.mul_le_mul_right _ hle) hb8) hcells (by omega) hw.1 fun H1 cA e1 z1 o1 hAr hNm => ?_
  have hcA : cA = g.2.1 t := Option.some.inj (hNm.symm.trans (hnr (hK.1.2 t _ htys).2))
  subst hcA
  refine W.widen (k := cells + 1) (n := slots + K) (Nat.le_refl _) (by omega) ?_
  refine kk H1 (hw.push ⟨ht5, ?_⟩ (by rw [z1, hw.1]) (fun x hx => o1 x (by rw [← hw.1]; exact hx)))
  rw [ha]
  exact e1
theorem zw_newq {t : Nat} {C : String} {n : Int32} {N K : Nat} (S : CallFix p m c cc nL s args (w0 :: zc_T) own) (hK : zc_K g s) (hw : zc_W g h H locs) (hcl : Cond.classLink own index C ∈ zc_T) (hover : va_AO C s) (htys : (zc_tys g)[t]? = some (g.2.1 t, .object C)) (ht5 : t < 5)
    (hn : ¬ n < 0) (hN : n.toNatClampNeg = N) (hle : N ≤ K) (hb8 : K * 4 ≤ 536870912) (hcells : cells + 1 ≤ R.cells) (hslots : slots + K ≤ R.slots) (hdg : decode cc pc = .ok (.anewarray index, 3))
    (kk : ∀ H1 : Heap, zc_W g (zf_new h (.inl (t, N, .inr (.inr (.inr (.inr (fun _ => none))))))) H1 locs → W p l e R s m args below meth c H1 locs (cells + 1) (slots + K) Q (F0 m (pc + 3) ls (va_rf (some h.2.1) :: rest))) : W p l e R s m args below meth c H locs cells slots Q (F0 m pc ls (.int n :: rest)) := by
  subst hN
  refine W.anew S.1 S.2.1 S.2.2.2.1 (S.2.2.2.2 _ (List.mem_cons_of_mem _ hcl)) (va_AO.use hover) rfl hdg rfl hn (Nat.le_trans (Nat.mul_le_mul_right _ hle) hb8) hcells (by omega) fun cA kA comp f1 f2 f3 f4 => ?_
  have hcA : cA = g.2.1 t := by
    obtain ⟨_, _, -, -, -, h4⟩ := (hK.1.2 t _ htys).2
    exact Option.some.inj (f1.symm.trans h4)
  subst hcA
  refine W.widen (k := cells + 1) (n := slots + K) (Nat.le_refl _) (by omega) ?_
  rw [show H.size = h.2.1 from hw.1]
  refine kk _ (hw.push ⟨ht5, ?_⟩ (by simp) (fun x hx => by rw [Array.getElem?_push, if_neg (Nat.ne_of_lt hx)]))
  rw [vp_cell_q, ← hw.1, Array.getElem?_push_size]
  congr 1
  rw [show (fun j => va_rf ((fun _ => none : Nat → Option Nat) j)) = (fun _ => Value.null) from rfl, ← arrV_new]
/-- ends -/
theorem zw_iret {av : List Value} {v : Int32} {rm : Room} {ty : FieldType} (hx : p.tables.exec = Jvm.exec) (hb : c.code = cc) (hr : meth.sig.returnType = some ty) (hlk : meth.locks = false) (hn : narrow ty (.int v) = .int v) (hw : zc_W g h2 H locs) (hdg : decode cc pc = .ok (.ireturn, 1)) (h1 : cells ≤ rm.cells) (h3 : slots ≤ rm.slots) :
    W p l e R s m av.toArray below meth c H locs cells slots (zc_Q g below rm (some (.int v)) h2 av s) (F0 m pc ls [.int v]) := by
  refine W.widen (k := rm.cells) (n := rm.slots) h1 h3 ?_
  exact W.zret hx hb hr hn (fun t ht hW => ⟨rfl, by rw [ht]; exact ⟨hw.1, hw.2.1, hw.2.2.1, hw.2.2.2.1, hw.2.2.2.2.1, fun l hl => by cases hl⟩⟩) hw.2.2.2.2.2 hdg hlk
theorem zw_lret {av : List Value} {v : Int64} {rm : Room} (hx : p.tables.exec = Jvm.exec) (hb : c.code = cc) (hr : meth.sig.returnType = some .long) (hlk : meth.locks = false) (hw : zc_W g h2 H locs) (hdg : decode cc pc = .ok (.lreturn, 1)) (h1 : cells ≤ rm.cells) (h3 : slots ≤ rm.slots) :
    W p l e R s m av.toArray below meth c H locs cells slots (zc_Q g below rm (some (.long v)) h2 av s) (F0 m pc ls [.long v]) := by
  refine W.widen (k := rm.cells) (n := rm.slots) h1 h3 ?_
  exact W.lret hx hb hr (fun t ht hW => ⟨rfl, by rw [ht]; exact ⟨hw.1, hw.2.1, hw.2.2.1, hw.2.2.2.1, hw.2.2.2.2.1, fun l hl => by cases hl⟩⟩) hw.2.2.2.2.2 hdg hlk
theorem zw_vret {av : List Value} {rm : Room} (hx : p.tables.exec = Jvm.exec) (hb : c.code = cc) (hr : meth.sig.returnType = none) (hlk : meth.locks = false) (hw : zc_W g h2 H locs) (hdg : decode cc pc = .ok (.return_, 1)) (h1 : cells ≤ rm.cells) (h3 : slots ≤ rm.slots) :
    W p l e R s m av.toArray below meth c H locs cells slots (zc_Q g below rm none h2 av s) (F0 m pc ls []) := by
  refine W.widen (k := rm.cells) (n := rm.slots) h1 h3 ?_
  exact W.vret hx hb hr (fun t ht hW => ⟨rfl, by rw [ht]; exact ⟨hw.1, hw.2.1, hw.2.2.1, hw.2.2.2.1, hw.2.2.2.2.1, fun l hl => by cases hl⟩⟩) hw.2.2.2.2.2 hdg hlk
theorem zw_aret {av : List Value} {r : Option Nat} {rt : FieldType} {rm : Room} (hx : p.tables.exec = Jvm.exec) (hb : c.code = cc) (hr : meth.sig.returnType = some rt) (hrt : (∃ n, rt = .object n) ∨ ∃ t, rt = .array t) (hlk : meth.locks = false) (hw : zc_W g h2 H locs) (hdg : decode cc pc = .ok (.areturn, 1)) (h1 : cells ≤ rm.cells) (h3 : slots ≤ rm.slots) :
    W p l e R s m av.toArray below meth c H locs cells slots (zc_Q g below rm (some (va_rf r)) h2 av s) (F0 m pc ls [va_rf r]) := by
  refine W.widen (k := rm.cells) (n := rm.slots) h1 h3 ?_
  exact W.aret hx hb hr hrt (va_rf_or r) (fun t ht hW => ⟨rfl, by rw [ht]; exact ⟨hw.1, hw.2.1, hw.2.2.1, hw.2.2.2.1, hw.2.2.2.2.1, fun l hl => by cases hl⟩⟩) hw.2.2.2.2.2 hdg hlk
end ZD
theorem zc_M.of {l : Launch} {g : zc_G} {y : MethodName} {b : ByteArray} {n : Nat} {ret : Option FieldType} {rm : Room} {h : zc_H} {av : List Value} {h2 : zc_H} {ov : Option Value} (hy : plainName y.cls = true) (hsl : (lg_sl av).length ≤ n)
    (body : ∀ (p : Program) (e : Env) (s : State) (m : MethodId) (below : List Frame) (meth : Method) (c : Code) (ls : Array Slot), CallFix p m c b n s av.toArray (zc_ws y b n ret) y.cls → zc_K g s → zc_W g h s.heap [] → meth.sig.returnType = ret → meth.locks = false → meth.name = y.name → lv_has ls n (lv_args 0 av) →
      W p l e rm s m av.toArray below meth c s.heap [] 0 0 (zc_Q g below rm ov h2 av s) (F0 m 0 ls [])) : zc_M l g y b n ret rm h av h2 ov := by
  refine Met.ofW (cc := b) (maxL := n) (ret := ret) hy rfl ?_
  intro p e s m args below meth c s₁ B hml hv
  obtain ⟨rfl, hW, hK⟩ := hv
  rw [lg_entry_eq]
  exact body p e s m below meth c _ ⟨B.exec, B.bytes, hml, findClass_of_methodNamed B.named, atoms_spec (ws := zc_ws y b n ret) B.pre⟩ hK hW B.returns B.notSynchronized (name_of_methodNamed B.named B.method).1 (lv_entry av hsl)
