/-! steps backward, small rows, copies, casts -/
theorem zo_t {p : Prop} {_ : Decidable p} {β : Type} {x y b : β} (hp : p) (h : (if p then x else y) = b) : x = b := by rw [if_pos hp] at h; exact h
theorem zo_f {p : Prop} {_ : Decidable p} {β : Type} {x y b : β} (hp : ¬ p) (h : (if p then x else y) = b) : y = b := by rw [if_neg hp] at h; exact h
theorem zv_z1 {x : Int32} (h : x = 0 ∨ x = 1) : narrow .boolean (.int x) = .int x := by rcases h with rfl | rfl <;> rfl
theorem zv_z2 {x : Int32} (h : x = 0 ∨ x = 1) : fits .boolean (.int x) = true := by rcases h with rfl | rfl <;> rfl
theorem zv_rnO (n : String) (r : Option Nat) : narrow (.object n) (va_rf r) = va_rf r := by cases r <;> rfl
theorem zv_rnA (t : FieldType) (r : Option Nat) : narrow (.array t) (va_rf r) = va_rf r := by cases r <;> rfl
theorem zv_rfO (n : String) (r : Option Nat) : fits (.object n) (va_rf r) = true := by cases r <;> rfl
theorem zv_rfA (t : FieldType) (r : Option Nat) : fits (.array t) (va_rf r) = true := by cases r <;> rfl
theorem ls_size {ls : Array Slot} {n : Nat} {l : List (Nat × Value)} (h : lv_has ls n l) : ls.size = n := h.1
def zf_cc (h : zc_H) (r : Option Nat) (c : Nat) : Bool := match r with
  | none => true
  | some q => zf_is h q c
def zf_isj (h : zc_H) (q : Nat) : Bool := match h.1 q with
  | some (.inl x) => x.1 == 1
  | _ => false
def zf_sO (h : zc_H) (q : Nat) (i : Int32) (x : Nat) : Option zc_H := match h.1 q with
  | some (.inl (t', n, .inr (.inr (.inr (.inr f))))) => if t' = 4 ∧ ¬ (i < 0 ∨ n ≤ i.toNatClampNeg) ∧ (zf_is h x 4 = true ∨ zf_is h x 3 = true) then some (zf_up h q (.inl (4, n, .inr (.inr (.inr (.inr (va_up f i.toNatClampNeg (some x)))))))) else none
  | _ => none
def zf_sN (h : zc_H) (q : Nat) (i : Int32) : Option zc_H := match h.1 q with
  | some (.inl (t', n, .inr (.inr (.inr (.inr f))))) => if t' = 4 ∧ ¬ (i < 0 ∨ n ≤ i.toNatClampNeg) then some (zf_up h q (.inl (4, n, .inr (.inr (.inr (.inr (va_up f i.toNatClampNeg none))))))) else none
  | _ => none
/-- n longs of one row come to another -/
def zf_cpj (h : zc_H) (a : Nat) (sp : Int32) (b : Nat) (dp n : Int32) : Option zc_H := match h.1 a, h.1 b with
  | some (.inl (t0, n0, .inr (.inl f))), some (.inl (t1, n1, .inr (.inl f1))) => if t0 = 1 ∧ t1 = 1 ∧ ¬ sp < 0 ∧ ¬ dp < 0 ∧ ¬ n < 0 ∧ sp.toNatClampNeg + n.toNatClampNeg ≤ n0 ∧ dp.toNatClampNeg + n.toNatClampNeg ≤ n1 then some (zf_up h b (.inl (1, n1, .inr (.inl (va_cpy f f1 sp.toNatClampNeg dp.toNatClampNeg n.toNatClampNeg))))) else none
  | _, _ => none
/-- a row of longs, once more -/
def zf_clj (h : zc_H) (a : Nat) : Option zc_H := match h.1 a with
  | some (.inl (t, n, .inr (.inl f))) => if t = 1 ∧ n ≤ 40 then some (zf_new h (.inl (1, n, .inr (.inl f)))) else none
  | _ => none
theorem zf_isj_e {h : zc_H} {q : Nat} (hv : zf_isj h q = true) : ∃ x : vp_A, h.1 q = some (.inl (1, x)) := by
  unfold zf_isj at hv
  split at hv
  · rename_i x hx
    exact ⟨x.2, by rw [hx, ← beq_iff_eq.mp hv]⟩
  · cases hv
theorem zf_clj_e {h h2 : zc_H} {a : Nat} (hv : zf_clj h a = some h2) : ∃ (n : Nat) (f : Nat → Int64), h.1 a = some (.inl (1, n, .inr (.inl f))) ∧ n ≤ 40 ∧ h2 = zf_new h (.inl (1, n, .inr (.inl f))) := by
  unfold zf_clj at hv
  split at hv
  · rename_i t n f hx
    obtain ⟨⟨rfl, h1⟩, h3⟩ := zo_g hv
    exact ⟨n, f, hx, h1, (Option.some.inj h3).symm⟩
  · cases hv
section ZE
variable {p : Program} {l : Launch} {e : Env} {R : Room} {s : State} {m : MethodId} {args : Array Value} {below : List Frame} {meth : Method} {c : Code} {H : Heap} {locs : List Loc} {cells slots : Nat} {Q : State → Prop}
variable {cc : ByteArray} {pc nL : Nat} {ls : Array Slot} {rest : List Value} {own : String} {w0 : Cond} {g : zc_G} {h h2 : zc_H} {index : Nat}
theorem zw_cast {r : Option Nat} {q : vw_C} {ci : Nat} {nm : String} (S : CallFix p m c cc nL s args (w0 :: zc_T) own) (hK : zc_K g s) (hw : zc_W g h H locs) (hlink : Cond.classLink own index nm ∈ zc_T) (hc : zc_cl[ci]? = some q) (hq : q.1 = nm) (hv : zf_cc h r ci = true) (hdg : decode cc pc = .ok (.checkcast index, 3))
    (k : W p l e R s m args below meth c H locs cells slots Q (F0 m (pc + 3) ls (va_rf r :: rest))) : W p l e R s m args below meth c H locs cells slots Q (F0 m pc ls (va_rf r :: rest)) := by
  cases r with
  | none => exact lv_castN S.1 S.2.1 hdg k
  | some a =>
    obtain ⟨cell, h1, h2, h3⟩ := zc_rcv hK hw hc hv
    intro T hT X
    obtain ⟨vm', X', st⟩ := X.checkcastYes S.1 S.2.2.2.1 (S.2.2.2.2 _ (List.mem_cons_of_mem _ hlink)) (by rw [hT]; exact h1) h2 (by rw [← hq]; exact h3) (va_asg _ _) (g := F0 m pc ls (va_rf (some a) :: rest)) rfl rfl (by rw [S.2.1]; exact hdg)
    obtain ⟨t, a1, b1⟩ := k (T.setVm vm') hT X'
    exact ⟨t, st t a1, b1⟩
theorem zw_castJ {a : Nat} (S : CallFix p m c cc nL s args (w0 :: zc_T) own) (hK : zc_K g s) (hw : zc_W g h H locs) (hlink : Cond.classLink own index "[J" ∈ zc_T) (hv : zf_isj h a = true) (hdg : decode cc pc = .ok (.checkcast index, 3))
    (k : W p l e R s m args below meth c H locs cells slots Q (F0 m (pc + 3) ls (va_rf (some a) :: rest))) : W p l e R s m args below meth c H locs cells slots Q (F0 m pc ls (va_rf (some a) :: rest)) := by
  obtain ⟨x, hx⟩ := zf_isj_e hv
  exact va_castA S.1 S.2.1 S.2.2.2.1 (S.2.2.2.2 _ (List.mem_cons_of_mem _ hlink)) (hw.arr hx) 0 rfl (hK.1.2 1 _ rfl).2 hdg k
theorem zw_aastO {a v : Nat} {i : Int32} (S : CallFix p m c cc nL s args (w0 :: zc_T) own) (hK : zc_K g s) (hw : zc_W g h H locs) (w4 : Cond.castable "LineRemarks$Revision" "java/lang/Object" ∈ zc_N) (w3 : Cond.castable "LineRemarks$Remark" "java/lang/Object" ∈ zc_N) (hv : zf_sO h a i v = some h2) (hdg : decode cc pc = .ok (.aastore, 1))
    (kk : ∀ (H1 : Heap) (locs1 : List Loc), zc_W g h2 H1 locs1 → W p l e R s m args below meth c H1 locs1 cells slots Q (F0 m (pc + 1) ls rest)) : W p l e R s m args below meth c H locs cells slots Q (F0 m pc ls (va_rf (some v) :: .int i :: va_rf (some a) :: rest)) := by
  unfold zf_sO at hv
  split at hv
  case h_2 => cases hv
  rename_i t' n f h1
  obtain ⟨⟨ht', hin, hx⟩, hv2⟩ := zo_g hv
  subst ht'
  cases Option.some.inj hv2
  have hlt : i.toNatClampNeg < n := Nat.not_le.mp fun q => hin (Or.inr q)
  have h0 : ¬ i < 0 := fun q => hin (Or.inl q)
  have key : ∃ (cell : Cell) (c0 t0 : ClassId), H[v]? = some cell ∧ cell.vm.isStatics = false ∧ s.vm.findClass "java/lang/Object" = some t0 ∧ cell.cls = c0 ∧ s.vm.assignable c0 t0 = true := by
    rcases hx with hx | hx
    · obtain ⟨cell, e1, e2, e3⟩ := zc_rcv (ci := 4) (q := (RX4, TX4, 5)) hK hw rfl hx
      obtain ⟨c0, t0, f1, f2, f3⟩ := Cond.castable_spec (va_Nw.use (A := args) rfl (hK.2.1 _ w4))
      exact ⟨cell, c0, t0, e1, e2, f2, Option.some.inj (e3.symm.trans f1), f3⟩
    · obtain ⟨cell, e1, e2, e3⟩ := zc_rcv (ci := 3) (q := (RX3, TX3, 6)) hK hw rfl hx
      obtain ⟨c0, t0, f1, f2, f3⟩ := Cond.castable_spec (va_Nw.use (A := args) rfl (hK.2.1 _ w3))
      exact ⟨cell, c0, t0, e1, e2, f2, Option.some.inj (e3.symm.trans f1), f3⟩
  obtain ⟨cellV, c0, t0, g1, g2, g3, g4, g5⟩ := key
  subst g4
  obtain ⟨kA, comp, k1, k2, k3, -⟩ := (hK.1.2 4 _ rfl).2
  have hcomp : comp = t0 := Option.some.inj (k3.symm.trans g3)
  subst hcomp
  obtain ⟨kE, hkE, -⟩ := Vm.findClass_spec g3
  have hkC : ∃ kC, s.vm.classes[cellV.cls]? = some kC := by
    rcases hx with hx | hx
    · obtain ⟨cell, e1, e2, e3⟩ := zc_rcv (ci := 4) (q := (RX4, TX4, 5)) hK hw rfl hx
      cases e1.symm.trans g1
      obtain ⟨kC, hkC, -⟩ := Vm.findClass_spec e3
      exact ⟨kC, hkC⟩
    · obtain ⟨cell, e1, e2, e3⟩ := zc_rcv (ci := 3) (q := (RX3, TX3, 6)) hK hw rfl hx
      cases e1.symm.trans g1
      obtain ⟨kC, hkC, -⟩ := Vm.findClass_spec e3
      exact ⟨kC, hkC⟩
  obtain ⟨kC, hkC⟩ := hkC
  refine W.aast S.1 S.2.1 (hw.arr h1 0 _ rfl) (fun q h => by cases h) (fun h => by cases h) k1 k2 rfl hkE ⟨h0, by show _ < (arrV _ _ _).slots.size; rw [arrV_size]; exact hlt⟩ g1 (fun q h => by rw [h] at g2; cases g2) hkC g5 rfl rfl hdg fun H1 e1 z oq => ?_
  refine kk H1 _ (hw.up h1 ⟨Nat.le_of_ble_eq_true rfl, ?_⟩ z oq)
  rw [e1, vp_cell_q, vp_cell_q, arrV_store]
  exact congrArg (fun z => some (arrV (g.2.1 4) n z)) (zc_vR f i.toNatClampNeg (some v))
theorem zw_aastN {a : Nat} {i : Int32} (S : CallFix p m c cc nL s args (w0 :: zc_T) own) (hK : zc_K g s) (hw : zc_W g h H locs) (hv : zf_sN h a i = some h2) (hdg : decode cc pc = .ok (.aastore, 1))
    (kk : ∀ (H1 : Heap) (locs1 : List Loc), zc_W g h2 H1 locs1 → W p l e R s m args below meth c H1 locs1 cells slots Q (F0 m (pc + 1) ls rest)) : W p l e R s m args below meth c H locs cells slots Q (F0 m pc ls (va_rf none :: .int i :: va_rf (some a) :: rest)) := by
  unfold zf_sN at hv
  split at hv
  case h_2 => cases hv
  rename_i t' n f h1
  obtain ⟨⟨ht', hin⟩, hv2⟩ := zo_g hv
  subst ht'
  cases Option.some.inj hv2
  have hc : H[a]? = some (vp_cell (g.2.1 4) (n, .inr (.inr (.inr (.inr f))))) := hw.arr h1 0 _ rfl
  have hl : a < H.size := (Array.getElem?_eq_some_iff.mp hc).1
  intro T hT X
  subst hT
  obtain ⟨X', st⟩ := va_aastN0 (C := "java/lang/Object") X S.1 hc ((hK.1.2 4 _ rfl).1 n (fun j => va_rf (f j))) (fun q => by cases q) (by show ¬ (i < 0 ∨ (arrV _ _ _).slots.size ≤ _); rw [arrV_size]; exact hin) (g := F0 m pc ls (va_rf none :: .int i :: va_rf (some a) :: rest)) rfl rfl (by rw [S.2.1]; exact hdg)
  obtain ⟨t, a1, b1⟩ := kk _ _ (hw.up h1 (e := .inl (4, n, .inr (.inr (.inr (.inr (va_up f i.toNatClampNeg none)))))) ⟨Nat.le_of_ble_eq_true rfl, by
    refine (heapAt_setCell_self _ hl).trans ?_
    rw [vp_cell_q, vp_cell_q, arrV_store]
    exact congrArg (fun z => some (arrV (g.2.1 4) n z)) (zc_vR f i.toNatClampNeg none)⟩ (size_setCell _ _ _) (fun x hx => heapAt_setCell_ne _ (Ne.symm hx))) _ rfl X'
  exact ⟨t, st t a1, b1⟩
end ZE
theorem zv_ci (x : Int32) : (Value.int x).category = 1 := rfl
theorem zv_cj (x : Int64) : (Value.long x).category = 2 := rfl
