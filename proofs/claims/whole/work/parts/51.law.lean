def R_law : String := "LineRemarksLaw"
def lw_P (b : Addr) (xs : List Int32) (args : Array Value) (s : State) : Prop := args = #[.ref b] ∧ s.IntsAt b xs ∧ xs.length ≤ 3584 ∧ (Jvm.Cond.and given_1 narrow_1).before args s = true
def lw_Q (_ : Array Value) (s : State) (o : Outcome) (t : State) : Prop := o = .returned (some (.int 1)) ∧ Framed s o t [] 600000 7302250
def lw_Z (below : List Frame) (a : Array Value) (s : State) : State → Prop := fun t => ∃ o, t.status = .running ∧ Ended t below o ∧ lw_Q a s o t
/-- the law's own end, with 1 on the stack, nothing written that was there before, its room as the claim has it -/
theorem lw_ret {p : Program} {l : Launch} {e : Env} {s : State} {m : MethodId} {below : List Frame} {meth : Method} {c : Code} {b : Nat} (hx : p.tables.exec = Jvm.exec) (hb : c.code = code) (hr : meth.sig.returnType = ret) (hlocks : meth.locks = false) {pc : Nat} {H : Heap} {ls : Array Slot} (hdg : decode code pc = .ok (.ireturn, 1)) : W p l e room_1 s m #[Value.ref b] below meth c H [] 600000 7302250 (lw_Z below #[Value.ref b] s) (F0 m pc ls [.int 1]) := by
  intro T hT X
  obtain ⟨fs, hret, hrun, hended, hW, hframe⟩ := X.leave (v := some (.int 1)) (hlocks := hlocks) (fun h => by rw [hr] at h; cases h)
  have hmeth' : T.vm.method? m = some meth := X.method'
  refine ⟨T.setFrames fs, ?_, .returned (some (.int 1)), hrun, hended, rfl, ⟨_, rfl⟩, hW, hframe⟩
  jvm_step X.here [X.here.top, hx, hb, hdg, hmeth', hr, ret, narrow_b1]
  (try refine ⟨rfl, ?_⟩); (try refine ⟨rfl, ?_⟩)
  first | (intro acts; rw [hret _ acts rfl rfl rfl]) | rw [hret _ _ rfl rfl rfl]
  exact Steps.refl _
/-- what holds at the law's entry: the machine, the code, the tables' words (any of lw_tbl by 'hts w (by decide +kernel)'), the script of L ints xs at the cell b, what the Statement gives of the start (any of its parts by flat_of_before) -/
def lw_At (p : Program) (s : State) (m : MethodId) (meth : Method) (c : Code) (b L : Nat) (xs : Nat → Int32) : Prop :=
  p.tables.exec = Jvm.exec ∧ c.code = code ∧ meth.sig.returnType = ret ∧ c.maxLocals = 4 ∧ s.vm.findClass R_law = some m.cls ∧ (∀ w ∈ lw_tbl, w.before #[Value.ref b] s = true) ∧ va_X b L xs s s.heap ∧ b < s.heap.size ∧ meth.locks = false ∧ (Jvm.Cond.and given_1 narrow_1).before #[Value.ref b] s = true

theorem zl_cmp (x : Int64) : lg_cmp x x = 0 := by simp [lg_cmp]
theorem zl_in {x3 : Int32} {i L : Nat} (e : x3 = nI (7 * i)) (h : 7 * i + 7 ≤ L) (hL : L ≤ 3584) (j : Nat) (hj : j ≤ 6) : vp_in (x3 + Int32.ofNat j) L := by
  have e1 : x3 + Int32.ofNat j = nI (7 * i + j) := by rw [e]; exact nI_add (7 * i) j
  rw [e1]
  exact vp_in_nI (by omega) (by omega)
theorem zl_in0 {x3 : Int32} {i L : Nat} (e : x3 = nI (7 * i)) (h : 7 * i + 7 ≤ L) (hL : L ≤ 3584) : vp_in x3 L := by
  rw [e]
  exact vp_in_nI (by omega) (by omega)
theorem zl_cond {L i : Nat} (hL : L ≤ 3584) (hi : 7 * i ≤ 3600) (h : ¬ Int32.ofNat L - 7 < nI (7 * i)) : 7 * i + 7 ≤ L := by
  rw [Int32.lt_iff_toInt_lt, Int32.toInt_sub] at h
  have e1 : (nI (7 * i)).toInt = ((7 * i : Nat) : Int) := nI_toInt (by omega)
  have e2 : (Int32.ofNat L).toInt = (L : Int) := nI_toInt (by omega)
  have e3 : (7 : Int32).toInt = 7 := by decide
  rw [e1, e2, e3] at h
  rw [Int.bmod_eq_of_le (by omega) (by omega)] at h
  omega
section ZLW
variable {p : Program} {l : Launch} {e : Env} {R : Room} {s : State} {m : MethodId} {args : Array Value} {below : List Frame} {meth : Method} {c : Code} {H : Heap} {locs : List Loc} {cells slots : Nat} {Q : State → Prop}
variable {cc : ByteArray} {pc nL : Nat} {ls : Array Slot} {rest : List Value} {own : String} {w0 : Cond} {g : zc_G} {h h2 : zc_H} {index : Nat}
theorem zl_S (hw : zc_W g h H locs) (hz : g.2.2.1.1 = s.heap.size) (hH : g.2.2.1.2 = s.heap) : va_S (zc_A g) s.heap H locs :=
  ⟨by rw [hw.1, ← hz]; exact hw.2.1, fun x h1 h2 => by rw [hw.2.2.2.1 x (Nat.not_le.mp h2), hH], hw.2.2.2.2.2⟩
theorem zl_sld {b L : Nat} {xs : Nat → Int32} {i : Int32} (S : CallFix p m c cc nL s args (w0 :: zc_T) own) (hw : zc_W g h H locs) (hX : va_X b L xs s s.heap) (hz : g.2.2.1.1 = s.heap.size) (hH : g.2.2.1.2 = s.heap) (hbl : b < s.heap.size) (hin : vp_in i L) (hdg : decode cc pc = .ok (.iaload, 1))
    (kk : W p l e R s m args below meth c H locs cells slots Q (F0 m (pc + 1) ls (.int (xs i.toNatClampNeg) :: rest))) : W p l e R s m args below meth c H locs cells slots Q (F0 m pc ls (.int i :: va_rf (some b) :: rest)) :=
  va_sld S.1 S.2.1 hX hbl (fun z => by unfold zc_A at z; rw [hz] at z; omega) (zl_S hw hz hH) hin hdg kk
theorem zl_slen {b L : Nat} {xs : Nat → Int32} (S : CallFix p m c cc nL s args (w0 :: zc_T) own) (hw : zc_W g h H locs) (hX : va_X b L xs s s.heap) (hz : g.2.2.1.1 = s.heap.size) (hH : g.2.2.1.2 = s.heap) (hbl : b < s.heap.size) (hdg : decode cc pc = .ok (.arraylength, 1))
    (kk : W p l e R s m args below meth c H locs cells slots Q (F0 m (pc + 1) ls (.int (Int32.ofNat L) :: rest))) : W p l e R s m args below meth c H locs cells slots Q (F0 m pc ls (va_rf (some b) :: rest)) := by
  refine va_slen S.1 S.2.1 hX hbl (fun z => by unfold zc_A at z; rw [hz] at z; omega) (zl_S hw hz hH) hdg ?_
  exact kk
end ZLW
/-! the law: its words, its rows, its operations, its loop -/

def zl_op0 (Inv : zc_H → Prop) (P q : Nat) : Prop := ∀ (h : zc_H) (a0 : Int32) (a1 : Int32) (a2 : Int32), Inv h → ∃ (r1 : zc_H × Int32) (r2 : zc_H × Int32), zf_X9_row h P a0 a1 a2 = some r1 ∧ zf_X10_row r1.1 q a0 a1 a2 = some r2 ∧ r1.2 = r2.2 ∧ Inv r2.1
def zl_op1 (Inv : zc_H → Prop) (P q : Nat) : Prop := ∀ (h : zc_H) (a0 : Int32) (a1 : Int32) (a2 : Int64), Inv h → ∃ (r1 : zc_H × Int32) (r2 : zc_H × Int32), zf_X9_set h P a0 a1 a2 = some r1 ∧ zf_X10_set r1.1 q a0 a1 a2 = some r2 ∧ r1.2 = r2.2 ∧ Inv r2.1
def zl_op2 (Inv : zc_H → Prop) (P q : Nat) : Prop := ∀ (h : zc_H) (a0 : Int32) (a1 : Int32) (a2 : Int32) (a3 : Int32) (a4 : Int32), Inv h → ∃ (r1 : zc_H × Int32) (r2 : zc_H × Int32), zf_X9_copy h P a0 a1 a2 a3 a4 = some r1 ∧ zf_X10_copy r1.1 q a0 a1 a2 a3 a4 = some r2 ∧ r1.2 = r2.2 ∧ Inv r2.1
def zl_op3 (Inv : zc_H → Prop) (P q : Nat) : Prop := ∀ (h : zc_H) (a0 : Int32) (a1 : Int32), Inv h → ∃ (r1 : Int64) (r2 : Int64), zf_X9_element h P a0 a1 = some r1 ∧ zf_X10_element h q a0 a1 = some r2 ∧ r1 = r2 ∧ Inv h
def zl_op4 (Inv : zc_H → Prop) (P q : Nat) : Prop := ∀ (h : zc_H) (a0 : Int32) (a1 : Int32), Inv h → ∃ (r1 : zc_H × Int32) (r2 : zc_H × Int32), zf_X9_show h P a0 a1 = some r1 ∧ zf_X10_show r1.1 q a0 a1 = some r2 ∧ r1.2 = r2.2 ∧ Inv r2.1
def zl_op5 (Inv : zc_H → Prop) (P q : Nat) : Prop := ∀ (h : zc_H) (a0 : Int32), Inv h → ∃ (r1 : Int32) (r2 : Int32), zf_X9_holds h P a0 = some r1 ∧ zf_X10_holds h q a0 = some r2 ∧ r1 = r2 ∧ Inv h
def zl_op6 (Inv : zc_H → Prop) (P q : Nat) : Prop := ∀ (h : zc_H) (a0 : Int32) (a1 : Int32), Inv h → ∃ (r1 : zc_H × Int32) (r2 : zc_H × Int32), zf_X9_says h P a0 a1 = some r1 ∧ zf_X10_says r1.1 q a0 a1 = some r2 ∧ r1.2 = r2.2 ∧ Inv r2.1
def zl_op7 (Inv : zc_H → Prop) (P q : Nat) : Prop := ∀ (h : zc_H) (a0 : Int32) (a1 : Int32), Inv h → ∃ (r1 : zc_H × Int32) (r2 : zc_H × Int32), zf_X9_revise h P a0 a1 = some r1 ∧ zf_X10_revise r1.1 q a0 a1 = some r2 ∧ r1.2 = r2.2 ∧ Inv r2.1
def zl_op8 (Inv : zc_H → Prop) (P q : Nat) : Prop := ∀ (h : zc_H) , Inv h → ∃ (r1 : Int32) (r2 : Int32), zf_X9_fault h P  = some r1 ∧ zf_X10_fault h q  = some r2 ∧ r1 = r2 ∧ Inv h
def zl_op9 (Inv : zc_H → Prop) (P q : Nat) : Prop := ∀ (h : zc_H) (a0 : Int32), Inv h → ∃ (r1 : zc_H × Int32) (r2 : zc_H × Int32), zf_X9_lines h P a0 = some r1 ∧ zf_X10_lines r1.1 q a0 = some r2 ∧ r1.2 = r2.2 ∧ Inv r2.1
def zl_op10 (Inv : zc_H → Prop) (P q : Nat) : Prop := ∀ (h : zc_H) (a0 : Int32) (a1 : Int32) (a2 : Int32), Inv h → ∃ (r1 : zc_H × Int32) (r2 : zc_H × Int32), zf_X9_letter h P a0 a1 a2 = some r1 ∧ zf_X10_letter r1.1 q a0 a1 a2 = some r2 ∧ r1.2 = r2.2 ∧ Inv r2.1
def zl_op11 (Inv : zc_H → Prop) (P q : Nat) : Prop := ∀ (h : zc_H) (a0 : Int32), Inv h → ∃ (r1 : zc_H × Int32) (r2 : zc_H × Int32), zf_X9_former h P a0 = some r1 ∧ zf_X10_former r1.1 q a0 = some r2 ∧ r1.2 = r2.2 ∧ Inv r2.1
def zl_op12 (Inv : zc_H → Prop) (P q : Nat) : Prop := ∀ (h : zc_H) (a0 : Int32) (a1 : Int32), Inv h → ∃ (r1 : zc_H × Int32) (r2 : zc_H × Int32), zf_X9_rule h P a0 a1 = some r1 ∧ zf_X10_rule r1.1 q a0 a1 = some r2 ∧ r1.2 = r2.2 ∧ Inv r2.1
def zl_op13 (Inv : zc_H → Prop) (P q : Nat) : Prop := ∀ (h : zc_H) (a0 : Int32) (a1 : Int32) (a2 : Int32), Inv h → ∃ (r1 : zc_H × Int32) (r2 : zc_H × Int32), zf_X9_place h P a0 a1 a2 = some r1 ∧ zf_X10_place r1.1 q a0 a1 a2 = some r2 ∧ r1.2 = r2.2 ∧ Inv r2.1
def zl_op14 (Inv : zc_H → Prop) (P q : Nat) : Prop := ∀ (h : zc_H) (a0 : Int32) (a1 : Int32) (a2 : Int32), Inv h → ∃ (r1 : zc_H × Int32) (r2 : zc_H × Int32), zf_X9_matched h P a0 a1 a2 = some r1 ∧ zf_X10_matched r1.1 q a0 a1 a2 = some r2 ∧ r1.2 = r2.2 ∧ Inv r2.1
def zl_op15 (Inv : zc_H → Prop) (P q : Nat) : Prop := ∀ (h : zc_H) (a0 : Int32) (a1 : Int32) (a2 : Int32), Inv h → ∃ (r1 : zc_H × Int32) (r2 : zc_H × Int32), zf_X9_through h P a0 a1 a2 = some r1 ∧ zf_X10_through r1.1 q a0 a1 a2 = some r2 ∧ r1.2 = r2.2 ∧ Inv r2.1
def zl_op16 (Inv : zc_H → Prop) (P q : Nat) : Prop := ∀ (h : zc_H) (a0 : Int32) (a1 : Int32) (a2 : Int32), Inv h → ∃ (r1 : zc_H × Int32) (r2 : zc_H × Int32), zf_X9_origin h P a0 a1 a2 = some r1 ∧ zf_X10_origin r1.1 q a0 a1 a2 = some r2 ∧ r1.2 = r2.2 ∧ Inv r2.1
def zl_op17 (Inv : zc_H → Prop) (P q : Nat) : Prop := ∀ (h : zc_H) (a0 : Int32) (a1 : Int32) (a2 : Int32) (a3 : Int32) (a4 : Int32) (a5 : Int32), Inv h → ∃ (r1 : zc_H × Int32) (r2 : zc_H × Int32), zf_X9_remark h P a0 a1 a2 a3 a4 a5 = some r1 ∧ zf_X10_remark r1.1 q a0 a1 a2 a3 a4 a5 = some r2 ∧ r1.2 = r2.2 ∧ Inv r2.1
def zl_op18 (Inv : zc_H → Prop) (P q : Nat) : Prop := ∀ (h : zc_H) (a0 : Int32) (a1 : Int32), Inv h → ∃ (r1 : zc_H × Int32) (r2 : zc_H × Int32), zf_X9_remarkOf h P a0 a1 = some r1 ∧ zf_X10_remarkOf r1.1 q a0 a1 = some r2 ∧ r1.2 = r2.2 ∧ Inv r2.1
def zl_op19 (Inv : zc_H → Prop) (P q : Nat) : Prop := ∀ (h : zc_H) (a0 : Int32) (a1 : Int32), Inv h → ∃ (r1 : zc_H × Int32) (r2 : zc_H × Int32), zf_X9_settle h P a0 a1 = some r1 ∧ zf_X10_settle r1.1 q a0 a1 = some r2 ∧ r1.2 = r2.2 ∧ Inv r2.1
def zl_op20 (Inv : zc_H → Prop) (P q : Nat) : Prop := ∀ (h : zc_H) (a0 : Int32) (a1 : Int32) (a2 : Int32), Inv h → ∃ (r1 : zc_H × Int32) (r2 : zc_H × Int32), zf_X9_put h P a0 a1 a2 = some r1 ∧ zf_X10_put r1.1 q a0 a1 a2 = some r2 ∧ r1.2 = r2.2 ∧ Inv r2.1
def zl_op21 (Inv : zc_H → Prop) (P q : Nat) : Prop := ∀ (h : zc_H) (a0 : Int32) (a1 : Int32) (a2 : Int32), Inv h → ∃ (r1 : zc_H × Int32) (r2 : zc_H × Int32), zf_X9_score h P a0 a1 a2 = some r1 ∧ zf_X10_score_ r1.1 q a0 a1 a2 = some r2 ∧ r1.2 = r2.2 ∧ Inv r2.1
def zl_op22 (Inv : zc_H → Prop) (P q : Nat) : Prop := ∀ (h : zc_H) (a0 : Int32) (a1 : Int32), Inv h → ∃ (r1 : zc_H × Int32) (r2 : zc_H × Int32), zf_X9_leastNeed h P a0 a1 = some r1 ∧ zf_X10_leastNeed r1.1 q a0 a1 = some r2 ∧ r1.2 = r2.2 ∧ Inv r2.1
def zl_op23 (Inv : zc_H → Prop) (P q : Nat) : Prop := ∀ (h : zc_H) (a0 : Int32) (a1 : Int32), Inv h → ∃ (r1 : zc_H × Int32) (r2 : zc_H × Int32), zf_X9_fitting h P a0 a1 = some r1 ∧ zf_X10_fitting r1.1 q a0 a1 = some r2 ∧ r1.2 = r2.2 ∧ Inv r2.1
def zl_op24 (Inv : zc_H → Prop) (P q : Nat) : Prop := ∀ (h : zc_H) (a0 : Int32) (a1 : Int32), Inv h → ∃ (r1 : zc_H × Int32) (r2 : zc_H × Int32), zf_X9_inOrder h P a0 a1 = some r1 ∧ zf_X10_inOrder r1.1 q a0 a1 = some r2 ∧ r1.2 = r2.2 ∧ Inv r2.1
def zl_op25 (Inv : zc_H → Prop) (P q : Nat) : Prop := ∀ (h : zc_H) (a0 : Int32) (a1 : Int32), Inv h → ∃ (r1 : zc_H × Int32) (r2 : zc_H × Int32), zf_X9_who h P a0 a1 = some r1 ∧ zf_X10_who r1.1 q a0 a1 = some r2 ∧ r1.2 = r2.2 ∧ Inv r2.1
def zl_op26 (Inv : zc_H → Prop) (P q : Nat) : Prop := ∀ (h : zc_H) (a0 : Int32), Inv h → ∃ (r1 : zc_H × Int32) (r2 : zc_H × Int32), zf_X9_covered h P a0 = some r1 ∧ zf_X10_covered r1.1 q a0 = some r2 ∧ r1.2 = r2.2 ∧ Inv r2.1
def zl_op27 (Inv : zc_H → Prop) (P q : Nat) : Prop := ∀ (h : zc_H) (a0 : Int32) (a1 : Int32) (a2 : Int32), Inv h → ∃ (r1 : zc_H × Int32) (r2 : zc_H × Int32), zf_X9_judge h P a0 a1 a2 = some r1 ∧ zf_X10_judge r1.1 q a0 a1 a2 = some r2 ∧ r1.2 = r2.2 ∧ Inv r2.1
def zl_op28 (Inv : zc_H → Prop) (P q : Nat) : Prop := ∀ (h : zc_H) (a0 : Int32) (a1 : Int32), Inv h → ∃ (r1 : zc_H × Int32) (r2 : zc_H × Int32), zf_X9_again h P a0 a1 = some r1 ∧ zf_X10_again r1.1 q a0 a1 = some r2 ∧ r1.2 = r2.2 ∧ Inv r2.1
def zl_op29 (Inv : zc_H → Prop) (P q : Nat) : Prop := ∀ (h : zc_H) (a0 : Int32), Inv h → ∃ (r1 : zc_H × Int32) (r2 : zc_H × Int32), zf_X9_drift h P a0 = some r1 ∧ zf_X10_drift r1.1 q a0 = some r2 ∧ r1.2 = r2.2 ∧ Inv r2.1
def zl_op30 (Inv : zc_H → Prop) (P q : Nat) : Prop := ∀ (h : zc_H) (a0 : Int32), Inv h → ∃ (r1 : zc_H × Int32) (r2 : zc_H × Int32), zf_X9_seed h P a0 = some r1 ∧ zf_X10_seed r1.1 q a0 = some r2 ∧ r1.2 = r2.2 ∧ Inv r2.1
def zl_op31 (Inv : zc_H → Prop) (P q : Nat) : Prop := ∀ (h : zc_H) (a0 : Int32) (a1 : Int32) (a2 : Int32), Inv h → ∃ (r1 : zc_H × Int32) (r2 : zc_H × Int32), zf_X9_act h P a0 a1 a2 = some r1 ∧ zf_X10_act r1.1 q a0 a1 a2 = some r2 ∧ r1.2 = r2.2 ∧ Inv r2.1
def zl_op32 (Inv : zc_H → Prop) (P q : Nat) : Prop := ∀ (h : zc_H) (a0 : Int32), Inv h → ∃ (r1 : Int32) (r2 : Int32), zf_X9_trace h P a0 = some r1 ∧ zf_X10_trace h q a0 = some r2 ∧ r1 = r2 ∧ Inv h
def zl_op33 (Inv : zc_H → Prop) (P q : Nat) : Prop := ∀ (h : zc_H) , Inv h → ∃ (r1 : zc_H × Int32) (r2 : zc_H × Int32), zf_X9_image h P  = some r1 ∧ zf_X10_image r1.1 q  = some r2 ∧ r1.2 = r2.2 ∧ Inv r2.1
def zl_op34 (Inv : zc_H → Prop) (P q : Nat) : Prop := ∀ (h : zc_H) , Inv h → ∃ (r1 : zc_H × Int32) (r2 : zc_H × Int32), zf_X9_restore h P  = some r1 ∧ zf_X10_restore r1.1 q  = some r2 ∧ r1.2 = r2.2 ∧ Inv r2.1
def zl_op35 (Inv : zc_H → Prop) (P q : Nat) : Prop := ∀ (h : zc_H) (a0 : Int32), Inv h → ∃ (r1 : Int32) (r2 : Int32), zf_X9_status h P a0 = some r1 ∧ zf_X10_status h q a0 = some r2 ∧ r1 = r2 ∧ Inv h
set_option maxHeartbeats 4000000 in
set_option maxRecDepth 20000 in
theorem zl_case0 {p : Program} {e : Env} {s : State} {m : MethodId} {below : List Frame} {meth : Method} {c : Code} (l : Launch) {b L : Nat} {xs : Nat → Int32} (hL : L ≤ 3584) (g : zc_G) (P q : Nat) (Inv : zc_H → Prop) (S : CallFix p m c code 4 s #[Value.ref b] (.initialized RL :: zc_T) RL) (hK : zc_K g s) (hX : va_X b L xs s s.heap) (hz : g.2.2.1.1 = s.heap.size) (hH : g.2.2.1.2 = s.heap) (hbl : b < s.heap.size) {i : Nat} {x3 : Int32} (e3 : x3 = nI (7 * i)) (hi7 : 7 * i + 7 ≤ L) {h : zc_H} {H : Heap} {locs : List Loc} {ls : Array Slot} {cells slots : Nat} (hw : zc_W g h H locs) (hI : Inv h) (hl : lv_has ls 4 [(0, va_rf (some b)), (1, va_rf (some P)), (2, va_rf (some q)), (3, .int x3)]) (hcl : cells + 600 ≤ 600000) (hsl : slots + 24000 ≤ 7302250) (hop0 : zl_op0 Inv P q) (hnext : ∀ (h : zc_H) (H : Heap) (locs : List Loc) (ls : Array Slot) (cells1 slots1 : Nat), zc_W g h H locs → Inv h → lv_has ls 4 [(0, va_rf (some b)), (1, va_rf (some P)), (2, va_rf (some q)), (3, .int x3)] → cells1 ≤ cells + 289 → slots1 ≤ slots + 11560 → W p l e room_1 s m #[Value.ref b] below meth c H locs cells1 slots1 (lw_Z below #[Value.ref b] s) (F0 m 1469 ls [])) : W p l e room_1 s m #[Value.ref b] below meth c H locs cells slots (lw_Z below #[Value.ref b] s) (F0 m 192 ls []) := by
  have hx := S.1
  have hb := S.2.1
  refine zl_aload_n hx hb zd_L_law_192 rfl (lv_at hl 1 rfl) ?_
  refine zl_aload_n hx hb zd_L_law_193 rfl (lv_at hl 0 rfl) ?_
  refine lv_iload_n hx hb zd_L_law_194 rfl (lv_at hl 3 rfl) ?_
  refine lv_iconst (v := 1) hx hb zd_L_law_195 (by decide) ?_
  refine lv_iadd hx hb zd_L_law_196 ?_
  refine zl_sld S hw hX hz hH hbl (zl_in e3 hi7 hL 1 (by decide)) zd_L_law_197 ?_
  refine zl_aload_n hx hb zd_L_law_198 rfl (lv_at hl 0 rfl) ?_
  refine lv_iload_n hx hb zd_L_law_199 rfl (lv_at hl 3 rfl) ?_
  refine lv_iconst (v := 2) hx hb zd_L_law_200 (by decide) ?_
  refine lv_iadd hx hb zd_L_law_201 ?_
  refine zl_sld S hw hX hz hH hbl (zl_in e3 hi7 hL 2 (by decide)) zd_L_law_202 ?_
  refine zl_aload_n hx hb zd_L_law_203 rfl (lv_at hl 0 rfl) ?_
  refine lv_iload_n hx hb zd_L_law_204 rfl (lv_at hl 3 rfl) ?_
  refine lv_iconst (v := 3) hx hb zd_L_law_205 (by decide) ?_
  refine lv_iadd hx hb zd_L_law_206 ?_
  refine zl_sld S hw hX hz hH hbl (zl_in e3 hi7 hL 3 (by decide)) zd_L_law_207 ?_
  obtain ⟨r1, r2, e1, e2, e12, hI⟩ := hop0 h (xs (x3 + 1).toNatClampNeg) (xs (x3 + 2).toNatClampNeg) (xs (x3 + 3).toNatClampNeg) hI
  refine zw_callV (n := 3) (ci := 9) (q := zc_cl[9]) (As := [.int ((xs (x3 + 1).toNatClampNeg)), .int ((xs (x3 + 2).toNatClampNeg)), .int ((xs (x3 + 3).toNatClampNeg))]) (rest := []) S hK hw (zt_X9_row l g h P (xs (x3 + 1).toNatClampNeg) (xs (x3 + 2).toNatClampNeg) (xs (x3 + 3).toNatClampNeg) _ e1) zm_341 zm_342 zm_343 zq_X9_row zm_68 (by decide +kernel) ⟨Nat.le_of_ble_eq_true rfl, Nat.le_of_ble_eq_true rfl⟩ rfl rfl rfl (zi_X9_row e1) hl.1 rfl (by simp [zv_cat, zv_ci, zv_cj]) zd_L_law_208 ⟨(by show cells + (0 : Nat) ≤ (600000 : Nat); omega), (by show slots + (0 : Nat) ≤ (7302250 : Nat); omega)⟩ (fun H locs hw => ?_)
  replace hw : zc_W g r1.1 H locs := hw
  refine W.widen (k := (cells + 0)) (n := (slots + 0)) (Nat.le_refl _) (Nat.le_refl _) ?_
  refine zl_aload_n hx hb zd_L_law_211 rfl (lv_at hl 2 rfl) ?_
  refine zl_aload_n hx hb zd_L_law_212 rfl (lv_at hl 0 rfl) ?_
  refine lv_iload_n hx hb zd_L_law_213 rfl (lv_at hl 3 rfl) ?_
  refine lv_iconst (v := 1) hx hb zd_L_law_214 (by decide) ?_
  refine lv_iadd hx hb zd_L_law_215 ?_
  refine zl_sld S hw hX hz hH hbl (zl_in e3 hi7 hL 1 (by decide)) zd_L_law_216 ?_
  refine zl_aload_n hx hb zd_L_law_217 rfl (lv_at hl 0 rfl) ?_
  refine lv_iload_n hx hb zd_L_law_218 rfl (lv_at hl 3 rfl) ?_
  refine lv_iconst (v := 2) hx hb zd_L_law_219 (by decide) ?_
  refine lv_iadd hx hb zd_L_law_220 ?_
  refine zl_sld S hw hX hz hH hbl (zl_in e3 hi7 hL 2 (by decide)) zd_L_law_221 ?_
  refine zl_aload_n hx hb zd_L_law_222 rfl (lv_at hl 0 rfl) ?_
  refine lv_iload_n hx hb zd_L_law_223 rfl (lv_at hl 3 rfl) ?_
  refine lv_iconst (v := 3) hx hb zd_L_law_224 (by decide) ?_
  refine lv_iadd hx hb zd_L_law_225 ?_
  refine zl_sld S hw hX hz hH hbl (zl_in e3 hi7 hL 3 (by decide)) zd_L_law_226 ?_
  refine zw_callV (n := 3) (ci := 10) (q := zc_cl[10]) (As := [.int ((xs (x3 + 1).toNatClampNeg)), .int ((xs (x3 + 2).toNatClampNeg)), .int ((xs (x3 + 3).toNatClampNeg))]) (rest := [.int (r1.2)]) S hK hw (zt_X10_row l g r1.1 q (xs (x3 + 1).toNatClampNeg) (xs (x3 + 2).toNatClampNeg) (xs (x3 + 3).toNatClampNeg) _ e2) zm_1212 zm_1213 zm_1214 zq_X10_row zm_79 (by decide +kernel) ⟨Nat.le_of_ble_eq_true rfl, Nat.le_of_ble_eq_true rfl⟩ rfl rfl rfl (zi_X10_row e2) hl.1 rfl (by simp [zv_cat, zv_ci, zv_cj]) zd_L_law_227 ⟨(by show (cells + 0) + (0 : Nat) ≤ (600000 : Nat); omega), (by show (slots + 0) + (0 : Nat) ≤ (7302250 : Nat); omega)⟩ (fun H locs hw => ?_)
  replace hw : zc_W g r2.1 H locs := hw
  refine W.widen (k := ((cells + 0) + 0)) (n := ((slots + 0) + 0)) (Nat.le_refl _) (Nat.le_refl _) ?_
  refine lv_icmp_eq (tgt := 1469) hx hb zd_L_law_230 (by decide) (fun _ => ?_) (fun c9 => absurd e12 c9)
  exact hnext r2.1 _ _ _ _ _ hw hI hl (by omega) (by omega)
set_option maxHeartbeats 4000000 in
set_option maxRecDepth 20000 in
theorem zl_case1 {p : Program} {e : Env} {s : State} {m : MethodId} {below : List Frame} {meth : Method} {c : Code} (l : Launch) {b L : Nat} {xs : Nat → Int32} (hL : L ≤ 3584) (g : zc_G) (P q : Nat) (Inv : zc_H → Prop) (S : CallFix p m c code 4 s #[Value.ref b] (.initialized RL :: zc_T) RL) (hK : zc_K g s) (hX : va_X b L xs s s.heap) (hz : g.2.2.1.1 = s.heap.size) (hH : g.2.2.1.2 = s.heap) (hbl : b < s.heap.size) {i : Nat} {x3 : Int32} (e3 : x3 = nI (7 * i)) (hi7 : 7 * i + 7 ≤ L) {h : zc_H} {H : Heap} {locs : List Loc} {ls : Array Slot} {cells slots : Nat} (hw : zc_W g h H locs) (hI : Inv h) (hl : lv_has ls 4 [(0, va_rf (some b)), (1, va_rf (some P)), (2, va_rf (some q)), (3, .int x3)]) (hcl : cells + 600 ≤ 600000) (hsl : slots + 24000 ≤ 7302250) (hop1 : zl_op1 Inv P q) (hnext : ∀ (h : zc_H) (H : Heap) (locs : List Loc) (ls : Array Slot) (cells1 slots1 : Nat), zc_W g h H locs → Inv h → lv_has ls 4 [(0, va_rf (some b)), (1, va_rf (some P)), (2, va_rf (some q)), (3, .int x3)] → cells1 ≤ cells + 289 → slots1 ≤ slots + 11560 → W p l e room_1 s m #[Value.ref b] below meth c H locs cells1 slots1 (lw_Z below #[Value.ref b] s) (F0 m 1469 ls [])) : W p l e room_1 s m #[Value.ref b] below meth c H locs cells slots (lw_Z below #[Value.ref b] s) (F0 m 235 ls []) := by
  have hx := S.1
  have hb := S.2.1
  refine zl_aload_n hx hb zd_L_law_235 rfl (lv_at hl 1 rfl) ?_
  refine zl_aload_n hx hb zd_L_law_236 rfl (lv_at hl 0 rfl) ?_
  refine lv_iload_n hx hb zd_L_law_237 rfl (lv_at hl 3 rfl) ?_
  refine lv_iconst (v := 1) hx hb zd_L_law_238 (by decide) ?_
  refine lv_iadd hx hb zd_L_law_239 ?_
  refine zl_sld S hw hX hz hH hbl (zl_in e3 hi7 hL 1 (by decide)) zd_L_law_240 ?_
  refine zl_aload_n hx hb zd_L_law_241 rfl (lv_at hl 0 rfl) ?_
  refine lv_iload_n hx hb zd_L_law_242 rfl (lv_at hl 3 rfl) ?_
  refine lv_iconst (v := 2) hx hb zd_L_law_243 (by decide) ?_
  refine lv_iadd hx hb zd_L_law_244 ?_
  refine zl_sld S hw hX hz hH hbl (zl_in e3 hi7 hL 2 (by decide)) zd_L_law_245 ?_
  refine zl_aload_n hx hb zd_L_law_246 rfl (lv_at hl 0 rfl) ?_
  refine lv_iload_n hx hb zd_L_law_247 rfl (lv_at hl 3 rfl) ?_
  refine lv_iconst (v := 3) hx hb zd_L_law_248 (by decide) ?_
  refine lv_iadd hx hb zd_L_law_249 ?_
  refine zl_sld S hw hX hz hH hbl (zl_in e3 hi7 hL 3 (by decide)) zd_L_law_250 ?_
  refine lv_i2l (v := (((xs (x3 + 3).toNatClampNeg) : Int32).toInt64)) hx hb zd_L_law_251 rfl ?_
  refine lv_bipush (v := 32) hx hb zd_L_law_252 (by decide) ?_
  refine lv_lshl (v := ((((xs (x3 + 3).toNatClampNeg) : Int32).toInt64) <<< ((32 : Int32).toInt64 &&& 63))) hx hb zd_L_law_254 rfl ?_
  refine zl_aload_n hx hb zd_L_law_255 rfl (lv_at hl 0 rfl) ?_
  refine lv_iload_n hx hb zd_L_law_256 rfl (lv_at hl 3 rfl) ?_
  refine lv_iconst (v := 4) hx hb zd_L_law_257 (by decide) ?_
  refine lv_iadd hx hb zd_L_law_258 ?_
  refine zl_sld S hw hX hz hH hbl (zl_in e3 hi7 hL 4 (by decide)) zd_L_law_259 ?_
  refine lv_i2l (v := (((xs (x3 + 4).toNatClampNeg) : Int32).toInt64)) hx hb zd_L_law_260 rfl ?_
  refine lv_ldc2 (v := 4294967295) hx hb S.2.2.2.1 (S.2.2.2.2 _ (List.mem_cons_of_mem _ zm_1542)) zd_L_law_261 ?_
  refine lv_land hx hb zd_L_law_264 ?_
  refine lv_lor hx hb zd_L_law_265 ?_
  obtain ⟨r1, r2, e1, e2, e12, hI⟩ := hop1 h (xs (x3 + 1).toNatClampNeg) (xs (x3 + 2).toNatClampNeg) (((((xs (x3 + 3).toNatClampNeg) : Int32).toInt64) <<< ((32 : Int32).toInt64 &&& 63)) ||| ((((xs (x3 + 4).toNatClampNeg) : Int32).toInt64) &&& 4294967295)) hI
  refine zw_callV (n := 3) (ci := 9) (q := zc_cl[9]) (As := [.int ((xs (x3 + 1).toNatClampNeg)), .int ((xs (x3 + 2).toNatClampNeg)), .long ((((((xs (x3 + 3).toNatClampNeg) : Int32).toInt64) <<< ((32 : Int32).toInt64 &&& 63)) ||| ((((xs (x3 + 4).toNatClampNeg) : Int32).toInt64) &&& 4294967295)))]) (rest := []) S hK hw (zt_X9_set l g h P (xs (x3 + 1).toNatClampNeg) (xs (x3 + 2).toNatClampNeg) (((((xs (x3 + 3).toNatClampNeg) : Int32).toInt64) <<< ((32 : Int32).toInt64 &&& 63)) ||| ((((xs (x3 + 4).toNatClampNeg) : Int32).toInt64) &&& 4294967295)) _ e1) zm_360 zm_361 zm_362 zq_X9_set zm_68 (by decide +kernel) ⟨Nat.le_of_ble_eq_true rfl, Nat.le_of_ble_eq_true rfl⟩ rfl rfl rfl (zi_X9_set e1) hl.1 rfl (by simp [zv_cat, zv_ci, zv_cj]) zd_L_law_266 ⟨(by show cells + (0 : Nat) ≤ (600000 : Nat); omega), (by show slots + (0 : Nat) ≤ (7302250 : Nat); omega)⟩ (fun H locs hw => ?_)
  replace hw : zc_W g r1.1 H locs := hw
  refine W.widen (k := (cells + 0)) (n := (slots + 0)) (Nat.le_refl _) (Nat.le_refl _) ?_
  refine zl_aload_n hx hb zd_L_law_269 rfl (lv_at hl 2 rfl) ?_
  refine zl_aload_n hx hb zd_L_law_270 rfl (lv_at hl 0 rfl) ?_
  refine lv_iload_n hx hb zd_L_law_271 rfl (lv_at hl 3 rfl) ?_
  refine lv_iconst (v := 1) hx hb zd_L_law_272 (by decide) ?_
  refine lv_iadd hx hb zd_L_law_273 ?_
  refine zl_sld S hw hX hz hH hbl (zl_in e3 hi7 hL 1 (by decide)) zd_L_law_274 ?_
  refine zl_aload_n hx hb zd_L_law_275 rfl (lv_at hl 0 rfl) ?_
  refine lv_iload_n hx hb zd_L_law_276 rfl (lv_at hl 3 rfl) ?_
  refine lv_iconst (v := 2) hx hb zd_L_law_277 (by decide) ?_
  refine lv_iadd hx hb zd_L_law_278 ?_
  refine zl_sld S hw hX hz hH hbl (zl_in e3 hi7 hL 2 (by decide)) zd_L_law_279 ?_
  refine zl_aload_n hx hb zd_L_law_280 rfl (lv_at hl 0 rfl) ?_
  refine lv_iload_n hx hb zd_L_law_281 rfl (lv_at hl 3 rfl) ?_
  refine lv_iconst (v := 3) hx hb zd_L_law_282 (by decide) ?_
  refine lv_iadd hx hb zd_L_law_283 ?_
  refine zl_sld S hw hX hz hH hbl (zl_in e3 hi7 hL 3 (by decide)) zd_L_law_284 ?_
  refine lv_i2l (v := (((xs (x3 + 3).toNatClampNeg) : Int32).toInt64)) hx hb zd_L_law_285 rfl ?_
  refine lv_bipush (v := 32) hx hb zd_L_law_286 (by decide) ?_
  refine lv_lshl (v := ((((xs (x3 + 3).toNatClampNeg) : Int32).toInt64) <<< ((32 : Int32).toInt64 &&& 63))) hx hb zd_L_law_288 rfl ?_
  refine zl_aload_n hx hb zd_L_law_289 rfl (lv_at hl 0 rfl) ?_
  refine lv_iload_n hx hb zd_L_law_290 rfl (lv_at hl 3 rfl) ?_
  refine lv_iconst (v := 4) hx hb zd_L_law_291 (by decide) ?_
  refine lv_iadd hx hb zd_L_law_292 ?_
  refine zl_sld S hw hX hz hH hbl (zl_in e3 hi7 hL 4 (by decide)) zd_L_law_293 ?_
  refine lv_i2l (v := (((xs (x3 + 4).toNatClampNeg) : Int32).toInt64)) hx hb zd_L_law_294 rfl ?_
  refine lv_ldc2 (v := 4294967295) hx hb S.2.2.2.1 (S.2.2.2.2 _ (List.mem_cons_of_mem _ zm_1542)) zd_L_law_295 ?_
  refine lv_land hx hb zd_L_law_298 ?_
  refine lv_lor hx hb zd_L_law_299 ?_
  refine zw_callV (n := 3) (ci := 10) (q := zc_cl[10]) (As := [.int ((xs (x3 + 1).toNatClampNeg)), .int ((xs (x3 + 2).toNatClampNeg)), .long ((((((xs (x3 + 3).toNatClampNeg) : Int32).toInt64) <<< ((32 : Int32).toInt64 &&& 63)) ||| ((((xs (x3 + 4).toNatClampNeg) : Int32).toInt64) &&& 4294967295)))]) (rest := [.int (r1.2)]) S hK hw (zt_X10_set l g r1.1 q (xs (x3 + 1).toNatClampNeg) (xs (x3 + 2).toNatClampNeg) (((((xs (x3 + 3).toNatClampNeg) : Int32).toInt64) <<< ((32 : Int32).toInt64 &&& 63)) ||| ((((xs (x3 + 4).toNatClampNeg) : Int32).toInt64) &&& 4294967295)) _ e2) zm_1223 zm_1224 zm_1225 zq_X10_set zm_79 (by decide +kernel) ⟨Nat.le_of_ble_eq_true rfl, Nat.le_of_ble_eq_true rfl⟩ rfl rfl rfl (zi_X10_set e2) hl.1 rfl (by simp [zv_cat, zv_ci, zv_cj]) zd_L_law_300 ⟨(by show (cells + 0) + (0 : Nat) ≤ (600000 : Nat); omega), (by show (slots + 0) + (0 : Nat) ≤ (7302250 : Nat); omega)⟩ (fun H locs hw => ?_)
  replace hw : zc_W g r2.1 H locs := hw
  refine W.widen (k := ((cells + 0) + 0)) (n := ((slots + 0) + 0)) (Nat.le_refl _) (Nat.le_refl _) ?_
  refine lv_icmp_eq (tgt := 1469) hx hb zd_L_law_303 (by decide) (fun _ => ?_) (fun c9 => absurd e12 c9)
  exact hnext r2.1 _ _ _ _ _ hw hI hl (by omega) (by omega)
set_option maxHeartbeats 4000000 in
set_option maxRecDepth 20000 in
theorem zl_case2 {p : Program} {e : Env} {s : State} {m : MethodId} {below : List Frame} {meth : Method} {c : Code} (l : Launch) {b L : Nat} {xs : Nat → Int32} (hL : L ≤ 3584) (g : zc_G) (P q : Nat) (Inv : zc_H → Prop) (S : CallFix p m c code 4 s #[Value.ref b] (.initialized RL :: zc_T) RL) (hK : zc_K g s) (hX : va_X b L xs s s.heap) (hz : g.2.2.1.1 = s.heap.size) (hH : g.2.2.1.2 = s.heap) (hbl : b < s.heap.size) {i : Nat} {x3 : Int32} (e3 : x3 = nI (7 * i)) (hi7 : 7 * i + 7 ≤ L) {h : zc_H} {H : Heap} {locs : List Loc} {ls : Array Slot} {cells slots : Nat} (hw : zc_W g h H locs) (hI : Inv h) (hl : lv_has ls 4 [(0, va_rf (some b)), (1, va_rf (some P)), (2, va_rf (some q)), (3, .int x3)]) (hcl : cells + 600 ≤ 600000) (hsl : slots + 24000 ≤ 7302250) (hop2 : zl_op2 Inv P q) (hnext : ∀ (h : zc_H) (H : Heap) (locs : List Loc) (ls : Array Slot) (cells1 slots1 : Nat), zc_W g h H locs → Inv h → lv_has ls 4 [(0, va_rf (some b)), (1, va_rf (some P)), (2, va_rf (some q)), (3, .int x3)] → cells1 ≤ cells + 289 → slots1 ≤ slots + 11560 → W p l e room_1 s m #[Value.ref b] below meth c H locs cells1 slots1 (lw_Z below #[Value.ref b] s) (F0 m 1469 ls [])) : W p l e room_1 s m #[Value.ref b] below meth c H locs cells slots (lw_Z below #[Value.ref b] s) (F0 m 308 ls []) := by
  have hx := S.1
  have hb := S.2.1
  refine zl_aload_n hx hb zd_L_law_308 rfl (lv_at hl 1 rfl) ?_
  refine zl_aload_n hx hb zd_L_law_309 rfl (lv_at hl 0 rfl) ?_
  refine lv_iload_n hx hb zd_L_law_310 rfl (lv_at hl 3 rfl) ?_
  refine lv_iconst (v := 1) hx hb zd_L_law_311 (by decide) ?_
  refine lv_iadd hx hb zd_L_law_312 ?_
  refine zl_sld S hw hX hz hH hbl (zl_in e3 hi7 hL 1 (by decide)) zd_L_law_313 ?_
  refine zl_aload_n hx hb zd_L_law_314 rfl (lv_at hl 0 rfl) ?_
  refine lv_iload_n hx hb zd_L_law_315 rfl (lv_at hl 3 rfl) ?_
  refine lv_iconst (v := 2) hx hb zd_L_law_316 (by decide) ?_
  refine lv_iadd hx hb zd_L_law_317 ?_
  refine zl_sld S hw hX hz hH hbl (zl_in e3 hi7 hL 2 (by decide)) zd_L_law_318 ?_
  refine zl_aload_n hx hb zd_L_law_319 rfl (lv_at hl 0 rfl) ?_
  refine lv_iload_n hx hb zd_L_law_320 rfl (lv_at hl 3 rfl) ?_
  refine lv_iconst (v := 3) hx hb zd_L_law_321 (by decide) ?_
  refine lv_iadd hx hb zd_L_law_322 ?_
  refine zl_sld S hw hX hz hH hbl (zl_in e3 hi7 hL 3 (by decide)) zd_L_law_323 ?_
  refine zl_aload_n hx hb zd_L_law_324 rfl (lv_at hl 0 rfl) ?_
  refine lv_iload_n hx hb zd_L_law_325 rfl (lv_at hl 3 rfl) ?_
  refine lv_iconst (v := 4) hx hb zd_L_law_326 (by decide) ?_
  refine lv_iadd hx hb zd_L_law_327 ?_
  refine zl_sld S hw hX hz hH hbl (zl_in e3 hi7 hL 4 (by decide)) zd_L_law_328 ?_
  refine zl_aload_n hx hb zd_L_law_329 rfl (lv_at hl 0 rfl) ?_
  refine lv_iload_n hx hb zd_L_law_330 rfl (lv_at hl 3 rfl) ?_
  refine lv_iconst (v := 5) hx hb zd_L_law_331 (by decide) ?_
  refine lv_iadd hx hb zd_L_law_332 ?_
  refine zl_sld S hw hX hz hH hbl (zl_in e3 hi7 hL 5 (by decide)) zd_L_law_333 ?_
  obtain ⟨r1, r2, e1, e2, e12, hI⟩ := hop2 h (xs (x3 + 1).toNatClampNeg) (xs (x3 + 2).toNatClampNeg) (xs (x3 + 3).toNatClampNeg) (xs (x3 + 4).toNatClampNeg) (xs (x3 + 5).toNatClampNeg) hI
  refine zw_callV (n := 5) (ci := 9) (q := zc_cl[9]) (As := [.int ((xs (x3 + 1).toNatClampNeg)), .int ((xs (x3 + 2).toNatClampNeg)), .int ((xs (x3 + 3).toNatClampNeg)), .int ((xs (x3 + 4).toNatClampNeg)), .int ((xs (x3 + 5).toNatClampNeg))]) (rest := []) S hK hw (zt_X9_copy l g h P (xs (x3 + 1).toNatClampNeg) (xs (x3 + 2).toNatClampNeg) (xs (x3 + 3).toNatClampNeg) (xs (x3 + 4).toNatClampNeg) (xs (x3 + 5).toNatClampNeg) _ e1) zm_389 zm_390 zm_391 zq_X9_copy zm_68 (by decide +kernel) ⟨Nat.le_of_ble_eq_true rfl, Nat.le_of_ble_eq_true rfl⟩ rfl rfl rfl (zi_X9_copy e1) hl.1 rfl (by simp [zv_cat, zv_ci, zv_cj]) zd_L_law_334 ⟨(by show cells + (0 : Nat) ≤ (600000 : Nat); omega), (by show slots + (0 : Nat) ≤ (7302250 : Nat); omega)⟩ (fun H locs hw => ?_)
  replace hw : zc_W g r1.1 H locs := hw
  refine W.widen (k := (cells + 0)) (n := (slots + 0)) (Nat.le_refl _) (Nat.le_refl _) ?_
  refine zl_aload_n hx hb zd_L_law_337 rfl (lv_at hl 2 rfl) ?_
  refine zl_aload_n hx hb zd_L_law_338 rfl (lv_at hl 0 rfl) ?_
  refine lv_iload_n hx hb zd_L_law_339 rfl (lv_at hl 3 rfl) ?_
  refine lv_iconst (v := 1) hx hb zd_L_law_340 (by decide) ?_
  refine lv_iadd hx hb zd_L_law_341 ?_
  refine zl_sld S hw hX hz hH hbl (zl_in e3 hi7 hL 1 (by decide)) zd_L_law_342 ?_
  refine zl_aload_n hx hb zd_L_law_343 rfl (lv_at hl 0 rfl) ?_
  refine lv_iload_n hx hb zd_L_law_344 rfl (lv_at hl 3 rfl) ?_
  refine lv_iconst (v := 2) hx hb zd_L_law_345 (by decide) ?_
  refine lv_iadd hx hb zd_L_law_346 ?_
  refine zl_sld S hw hX hz hH hbl (zl_in e3 hi7 hL 2 (by decide)) zd_L_law_347 ?_
  refine zl_aload_n hx hb zd_L_law_348 rfl (lv_at hl 0 rfl) ?_
  refine lv_iload_n hx hb zd_L_law_349 rfl (lv_at hl 3 rfl) ?_
  refine lv_iconst (v := 3) hx hb zd_L_law_350 (by decide) ?_
  refine lv_iadd hx hb zd_L_law_351 ?_
  refine zl_sld S hw hX hz hH hbl (zl_in e3 hi7 hL 3 (by decide)) zd_L_law_352 ?_
  refine zl_aload_n hx hb zd_L_law_353 rfl (lv_at hl 0 rfl) ?_
  refine lv_iload_n hx hb zd_L_law_354 rfl (lv_at hl 3 rfl) ?_
  refine lv_iconst (v := 4) hx hb zd_L_law_355 (by decide) ?_
  refine lv_iadd hx hb zd_L_law_356 ?_
  refine zl_sld S hw hX hz hH hbl (zl_in e3 hi7 hL 4 (by decide)) zd_L_law_357 ?_
  refine zl_aload_n hx hb zd_L_law_358 rfl (lv_at hl 0 rfl) ?_
  refine lv_iload_n hx hb zd_L_law_359 rfl (lv_at hl 3 rfl) ?_
  refine lv_iconst (v := 5) hx hb zd_L_law_360 (by decide) ?_
  refine lv_iadd hx hb zd_L_law_361 ?_
  refine zl_sld S hw hX hz hH hbl (zl_in e3 hi7 hL 5 (by decide)) zd_L_law_362 ?_
  refine zw_callV (n := 5) (ci := 10) (q := zc_cl[10]) (As := [.int ((xs (x3 + 1).toNatClampNeg)), .int ((xs (x3 + 2).toNatClampNeg)), .int ((xs (x3 + 3).toNatClampNeg)), .int ((xs (x3 + 4).toNatClampNeg)), .int ((xs (x3 + 5).toNatClampNeg))]) (rest := [.int (r1.2)]) S hK hw (zt_X10_copy l g r1.1 q (xs (x3 + 1).toNatClampNeg) (xs (x3 + 2).toNatClampNeg) (xs (x3 + 3).toNatClampNeg) (xs (x3 + 4).toNatClampNeg) (xs (x3 + 5).toNatClampNeg) _ e2) zm_1235 zm_1236 zm_1237 zq_X10_copy zm_79 (by decide +kernel) ⟨Nat.le_of_ble_eq_true rfl, Nat.le_of_ble_eq_true rfl⟩ rfl rfl rfl (zi_X10_copy e2) hl.1 rfl (by simp [zv_cat, zv_ci, zv_cj]) zd_L_law_363 ⟨(by show (cells + 0) + (0 : Nat) ≤ (600000 : Nat); omega), (by show (slots + 0) + (0 : Nat) ≤ (7302250 : Nat); omega)⟩ (fun H locs hw => ?_)
  replace hw : zc_W g r2.1 H locs := hw
  refine W.widen (k := ((cells + 0) + 0)) (n := ((slots + 0) + 0)) (Nat.le_refl _) (Nat.le_refl _) ?_
  refine lv_icmp_eq (tgt := 1469) hx hb zd_L_law_366 (by decide) (fun _ => ?_) (fun c9 => absurd e12 c9)
  exact hnext r2.1 _ _ _ _ _ hw hI hl (by omega) (by omega)
set_option maxHeartbeats 4000000 in
set_option maxRecDepth 20000 in
theorem zl_case3 {p : Program} {e : Env} {s : State} {m : MethodId} {below : List Frame} {meth : Method} {c : Code} (l : Launch) {b L : Nat} {xs : Nat → Int32} (hL : L ≤ 3584) (g : zc_G) (P q : Nat) (Inv : zc_H → Prop) (S : CallFix p m c code 4 s #[Value.ref b] (.initialized RL :: zc_T) RL) (hK : zc_K g s) (hX : va_X b L xs s s.heap) (hz : g.2.2.1.1 = s.heap.size) (hH : g.2.2.1.2 = s.heap) (hbl : b < s.heap.size) {i : Nat} {x3 : Int32} (e3 : x3 = nI (7 * i)) (hi7 : 7 * i + 7 ≤ L) {h : zc_H} {H : Heap} {locs : List Loc} {ls : Array Slot} {cells slots : Nat} (hw : zc_W g h H locs) (hI : Inv h) (hl : lv_has ls 4 [(0, va_rf (some b)), (1, va_rf (some P)), (2, va_rf (some q)), (3, .int x3)]) (hcl : cells + 600 ≤ 600000) (hsl : slots + 24000 ≤ 7302250) (hop3 : zl_op3 Inv P q) (hnext : ∀ (h : zc_H) (H : Heap) (locs : List Loc) (ls : Array Slot) (cells1 slots1 : Nat), zc_W g h H locs → Inv h → lv_has ls 4 [(0, va_rf (some b)), (1, va_rf (some P)), (2, va_rf (some q)), (3, .int x3)] → cells1 ≤ cells + 289 → slots1 ≤ slots + 11560 → W p l e room_1 s m #[Value.ref b] below meth c H locs cells1 slots1 (lw_Z below #[Value.ref b] s) (F0 m 1469 ls [])) : W p l e room_1 s m #[Value.ref b] below meth c H locs cells slots (lw_Z below #[Value.ref b] s) (F0 m 371 ls []) := by
  have hx := S.1
  have hb := S.2.1
  refine zl_aload_n hx hb zd_L_law_371 rfl (lv_at hl 1 rfl) ?_
  refine zl_aload_n hx hb zd_L_law_372 rfl (lv_at hl 0 rfl) ?_
  refine lv_iload_n hx hb zd_L_law_373 rfl (lv_at hl 3 rfl) ?_
  refine lv_iconst (v := 1) hx hb zd_L_law_374 (by decide) ?_
  refine lv_iadd hx hb zd_L_law_375 ?_
  refine zl_sld S hw hX hz hH hbl (zl_in e3 hi7 hL 1 (by decide)) zd_L_law_376 ?_
  refine zl_aload_n hx hb zd_L_law_377 rfl (lv_at hl 0 rfl) ?_
  refine lv_iload_n hx hb zd_L_law_378 rfl (lv_at hl 3 rfl) ?_
  refine lv_iconst (v := 2) hx hb zd_L_law_379 (by decide) ?_
  refine lv_iadd hx hb zd_L_law_380 ?_
  refine zl_sld S hw hX hz hH hbl (zl_in e3 hi7 hL 2 (by decide)) zd_L_law_381 ?_
  obtain ⟨r1, r2, e1, e2, e12, hI⟩ := hop3 h (xs (x3 + 1).toNatClampNeg) (xs (x3 + 2).toNatClampNeg) hI
  refine zw_callV (n := 2) (ci := 9) (q := zc_cl[9]) (As := [.int ((xs (x3 + 1).toNatClampNeg)), .int ((xs (x3 + 2).toNatClampNeg))]) (rest := []) S hK hw (zt_X9_element l g h P (xs (x3 + 1).toNatClampNeg) (xs (x3 + 2).toNatClampNeg) _ e1) zm_408 zm_409 zm_410 zq_X9_element zm_68 (by decide +kernel) ⟨Nat.le_of_ble_eq_true rfl, Nat.le_of_ble_eq_true rfl⟩ rfl rfl rfl (zi_X9_element e1) hl.1 rfl (by simp [zv_cat, zv_ci, zv_cj]) zd_L_law_382 ⟨(by show cells + (0 : Nat) ≤ (600000 : Nat); omega), (by show slots + (0 : Nat) ≤ (7302250 : Nat); omega)⟩ (fun H locs hw => ?_)
  replace hw : zc_W g h H locs := hw
  refine W.widen (k := (cells + 0)) (n := (slots + 0)) (Nat.le_refl _) (Nat.le_refl _) ?_
  refine zl_aload_n hx hb zd_L_law_385 rfl (lv_at hl 2 rfl) ?_
  refine zl_aload_n hx hb zd_L_law_386 rfl (lv_at hl 0 rfl) ?_
  refine lv_iload_n hx hb zd_L_law_387 rfl (lv_at hl 3 rfl) ?_
  refine lv_iconst (v := 1) hx hb zd_L_law_388 (by decide) ?_
  refine lv_iadd hx hb zd_L_law_389 ?_
  refine zl_sld S hw hX hz hH hbl (zl_in e3 hi7 hL 1 (by decide)) zd_L_law_390 ?_
  refine zl_aload_n hx hb zd_L_law_391 rfl (lv_at hl 0 rfl) ?_
  refine lv_iload_n hx hb zd_L_law_392 rfl (lv_at hl 3 rfl) ?_
  refine lv_iconst (v := 2) hx hb zd_L_law_393 (by decide) ?_
  refine lv_iadd hx hb zd_L_law_394 ?_
  refine zl_sld S hw hX hz hH hbl (zl_in e3 hi7 hL 2 (by decide)) zd_L_law_395 ?_
  refine zw_callV (n := 2) (ci := 10) (q := zc_cl[10]) (As := [.int ((xs (x3 + 1).toNatClampNeg)), .int ((xs (x3 + 2).toNatClampNeg))]) (rest := [.long (r1)]) S hK hw (zt_X10_element l g h q (xs (x3 + 1).toNatClampNeg) (xs (x3 + 2).toNatClampNeg) _ e2) zm_1239 zm_1240 zm_1241 zq_X10_element zm_79 (by decide +kernel) ⟨Nat.le_of_ble_eq_true rfl, Nat.le_of_ble_eq_true rfl⟩ rfl rfl rfl (zi_X10_element e2) hl.1 rfl (by simp [zv_cat, zv_ci, zv_cj]) zd_L_law_396 ⟨(by show (cells + 0) + (0 : Nat) ≤ (600000 : Nat); omega), (by show (slots + 0) + (0 : Nat) ≤ (7302250 : Nat); omega)⟩ (fun H locs hw => ?_)
  replace hw : zc_W g h H locs := hw
  refine W.widen (k := ((cells + 0) + 0)) (n := ((slots + 0) + 0)) (Nat.le_refl _) (Nat.le_refl _) ?_
  refine W.lcmp hx hb zd_L_law_399 ?_
  refine lv_if_eq (tgt := 1469) hx hb zd_L_law_400 (by decide) (fun _ => ?_) (fun c9 => absurd (by rw [e12]; exact zl_cmp _) c9)
  exact hnext h _ _ _ _ _ hw hI hl (by omega) (by omega)
set_option maxHeartbeats 4000000 in
set_option maxRecDepth 20000 in
theorem zl_case4 {p : Program} {e : Env} {s : State} {m : MethodId} {below : List Frame} {meth : Method} {c : Code} (l : Launch) {b L : Nat} {xs : Nat → Int32} (hL : L ≤ 3584) (g : zc_G) (P q : Nat) (Inv : zc_H → Prop) (S : CallFix p m c code 4 s #[Value.ref b] (.initialized RL :: zc_T) RL) (hK : zc_K g s) (hX : va_X b L xs s s.heap) (hz : g.2.2.1.1 = s.heap.size) (hH : g.2.2.1.2 = s.heap) (hbl : b < s.heap.size) {i : Nat} {x3 : Int32} (e3 : x3 = nI (7 * i)) (hi7 : 7 * i + 7 ≤ L) {h : zc_H} {H : Heap} {locs : List Loc} {ls : Array Slot} {cells slots : Nat} (hw : zc_W g h H locs) (hI : Inv h) (hl : lv_has ls 4 [(0, va_rf (some b)), (1, va_rf (some P)), (2, va_rf (some q)), (3, .int x3)]) (hcl : cells + 600 ≤ 600000) (hsl : slots + 24000 ≤ 7302250) (hop4 : zl_op4 Inv P q) (hnext : ∀ (h : zc_H) (H : Heap) (locs : List Loc) (ls : Array Slot) (cells1 slots1 : Nat), zc_W g h H locs → Inv h → lv_has ls 4 [(0, va_rf (some b)), (1, va_rf (some P)), (2, va_rf (some q)), (3, .int x3)] → cells1 ≤ cells + 289 → slots1 ≤ slots + 11560 → W p l e room_1 s m #[Value.ref b] below meth c H locs cells1 slots1 (lw_Z below #[Value.ref b] s) (F0 m 1469 ls [])) : W p l e room_1 s m #[Value.ref b] below meth c H locs cells slots (lw_Z below #[Value.ref b] s) (F0 m 405 ls []) := by
  have hx := S.1
  have hb := S.2.1
  refine zl_aload_n hx hb zd_L_law_405 rfl (lv_at hl 1 rfl) ?_
  refine zl_aload_n hx hb zd_L_law_406 rfl (lv_at hl 0 rfl) ?_
  refine lv_iload_n hx hb zd_L_law_407 rfl (lv_at hl 3 rfl) ?_
  refine lv_iconst (v := 1) hx hb zd_L_law_408 (by decide) ?_
  refine lv_iadd hx hb zd_L_law_409 ?_
  refine zl_sld S hw hX hz hH hbl (zl_in e3 hi7 hL 1 (by decide)) zd_L_law_410 ?_
  refine zl_aload_n hx hb zd_L_law_411 rfl (lv_at hl 0 rfl) ?_
  refine lv_iload_n hx hb zd_L_law_412 rfl (lv_at hl 3 rfl) ?_
  refine lv_iconst (v := 2) hx hb zd_L_law_413 (by decide) ?_
  refine lv_iadd hx hb zd_L_law_414 ?_
  refine zl_sld S hw hX hz hH hbl (zl_in e3 hi7 hL 2 (by decide)) zd_L_law_415 ?_
  obtain ⟨r1, r2, e1, e2, e12, hI⟩ := hop4 h (xs (x3 + 1).toNatClampNeg) (xs (x3 + 2).toNatClampNeg) hI
  refine zw_callV (n := 2) (ci := 9) (q := zc_cl[9]) (As := [.int ((xs (x3 + 1).toNatClampNeg)), .int ((xs (x3 + 2).toNatClampNeg))]) (rest := []) S hK hw (zt_X9_show l g h P (xs (x3 + 1).toNatClampNeg) (xs (x3 + 2).toNatClampNeg) _ e1) zm_416 zm_417 zm_418 zq_X9_show zm_68 (by decide +kernel) ⟨Nat.le_of_ble_eq_true rfl, Nat.le_of_ble_eq_true rfl⟩ rfl rfl rfl (zi_X9_show e1) hl.1 rfl (by simp [zv_cat, zv_ci, zv_cj]) zd_L_law_416 ⟨(by show cells + (0 : Nat) ≤ (600000 : Nat); omega), (by show slots + (0 : Nat) ≤ (7302250 : Nat); omega)⟩ (fun H locs hw => ?_)
  replace hw : zc_W g r1.1 H locs := hw
  refine W.widen (k := (cells + 0)) (n := (slots + 0)) (Nat.le_refl _) (Nat.le_refl _) ?_
  refine zl_aload_n hx hb zd_L_law_419 rfl (lv_at hl 2 rfl) ?_
  refine zl_aload_n hx hb zd_L_law_420 rfl (lv_at hl 0 rfl) ?_
  refine lv_iload_n hx hb zd_L_law_421 rfl (lv_at hl 3 rfl) ?_
  refine lv_iconst (v := 1) hx hb zd_L_law_422 (by decide) ?_
  refine lv_iadd hx hb zd_L_law_423 ?_
  refine zl_sld S hw hX hz hH hbl (zl_in e3 hi7 hL 1 (by decide)) zd_L_law_424 ?_
  refine zl_aload_n hx hb zd_L_law_425 rfl (lv_at hl 0 rfl) ?_
  refine lv_iload_n hx hb zd_L_law_426 rfl (lv_at hl 3 rfl) ?_
  refine lv_iconst (v := 2) hx hb zd_L_law_427 (by decide) ?_
  refine lv_iadd hx hb zd_L_law_428 ?_
  refine zl_sld S hw hX hz hH hbl (zl_in e3 hi7 hL 2 (by decide)) zd_L_law_429 ?_
  refine zw_callV (n := 2) (ci := 10) (q := zc_cl[10]) (As := [.int ((xs (x3 + 1).toNatClampNeg)), .int ((xs (x3 + 2).toNatClampNeg))]) (rest := [.int (r1.2)]) S hK hw (zt_X10_show l g r1.1 q (xs (x3 + 1).toNatClampNeg) (xs (x3 + 2).toNatClampNeg) _ e2) zm_1243 zm_1244 zm_1245 zq_X10_show zm_79 (by decide +kernel) ⟨Nat.le_of_ble_eq_true rfl, Nat.le_of_ble_eq_true rfl⟩ rfl rfl rfl (zi_X10_show e2) hl.1 rfl (by simp [zv_cat, zv_ci, zv_cj]) zd_L_law_430 ⟨(by show (cells + 0) + (0 : Nat) ≤ (600000 : Nat); omega), (by show (slots + 0) + (0 : Nat) ≤ (7302250 : Nat); omega)⟩ (fun H locs hw => ?_)
  replace hw : zc_W g r2.1 H locs := hw
  refine W.widen (k := ((cells + 0) + 0)) (n := ((slots + 0) + 0)) (Nat.le_refl _) (Nat.le_refl _) ?_
  refine lv_icmp_eq (tgt := 1469) hx hb zd_L_law_433 (by decide) (fun _ => ?_) (fun c9 => absurd e12 c9)
  exact hnext r2.1 _ _ _ _ _ hw hI hl (by omega) (by omega)
set_option maxHeartbeats 4000000 in
set_option maxRecDepth 20000 in
theorem zl_case5 {p : Program} {e : Env} {s : State} {m : MethodId} {below : List Frame} {meth : Method} {c : Code} (l : Launch) {b L : Nat} {xs : Nat → Int32} (hL : L ≤ 3584) (g : zc_G) (P q : Nat) (Inv : zc_H → Prop) (S : CallFix p m c code 4 s #[Value.ref b] (.initialized RL :: zc_T) RL) (hK : zc_K g s) (hX : va_X b L xs s s.heap) (hz : g.2.2.1.1 = s.heap.size) (hH : g.2.2.1.2 = s.heap) (hbl : b < s.heap.size) {i : Nat} {x3 : Int32} (e3 : x3 = nI (7 * i)) (hi7 : 7 * i + 7 ≤ L) {h : zc_H} {H : Heap} {locs : List Loc} {ls : Array Slot} {cells slots : Nat} (hw : zc_W g h H locs) (hI : Inv h) (hl : lv_has ls 4 [(0, va_rf (some b)), (1, va_rf (some P)), (2, va_rf (some q)), (3, .int x3)]) (hcl : cells + 600 ≤ 600000) (hsl : slots + 24000 ≤ 7302250) (hop5 : zl_op5 Inv P q) (hnext : ∀ (h : zc_H) (H : Heap) (locs : List Loc) (ls : Array Slot) (cells1 slots1 : Nat), zc_W g h H locs → Inv h → lv_has ls 4 [(0, va_rf (some b)), (1, va_rf (some P)), (2, va_rf (some q)), (3, .int x3)] → cells1 ≤ cells + 289 → slots1 ≤ slots + 11560 → W p l e room_1 s m #[Value.ref b] below meth c H locs cells1 slots1 (lw_Z below #[Value.ref b] s) (F0 m 1469 ls [])) : W p l e room_1 s m #[Value.ref b] below meth c H locs cells slots (lw_Z below #[Value.ref b] s) (F0 m 438 ls []) := by
  have hx := S.1
  have hb := S.2.1
  refine zl_aload_n hx hb zd_L_law_438 rfl (lv_at hl 1 rfl) ?_
  refine zl_aload_n hx hb zd_L_law_439 rfl (lv_at hl 0 rfl) ?_
  refine lv_iload_n hx hb zd_L_law_440 rfl (lv_at hl 3 rfl) ?_
  refine lv_iconst (v := 1) hx hb zd_L_law_441 (by decide) ?_
  refine lv_iadd hx hb zd_L_law_442 ?_
  refine zl_sld S hw hX hz hH hbl (zl_in e3 hi7 hL 1 (by decide)) zd_L_law_443 ?_
  obtain ⟨r1, r2, e1, e2, e12, hI⟩ := hop5 h (xs (x3 + 1).toNatClampNeg) hI
  refine zw_callV (n := 1) (ci := 9) (q := zc_cl[9]) (As := [.int ((xs (x3 + 1).toNatClampNeg))]) (rest := []) S hK hw (zt_X9_holds l g h P (xs (x3 + 1).toNatClampNeg) _ e1) zm_447 zm_448 zm_449 zq_X9_holds zm_68 (by decide +kernel) ⟨Nat.le_of_ble_eq_true rfl, Nat.le_of_ble_eq_true rfl⟩ rfl rfl rfl (zi_X9_holds e1) hl.1 rfl (by simp [zv_cat, zv_ci, zv_cj]) zd_L_law_444 ⟨(by show cells + (0 : Nat) ≤ (600000 : Nat); omega), (by show slots + (0 : Nat) ≤ (7302250 : Nat); omega)⟩ (fun H locs hw => ?_)
  replace hw : zc_W g h H locs := hw
  refine W.widen (k := (cells + 0)) (n := (slots + 0)) (Nat.le_refl _) (Nat.le_refl _) ?_
  refine zl_aload_n hx hb zd_L_law_447 rfl (lv_at hl 2 rfl) ?_
  refine zl_aload_n hx hb zd_L_law_448 rfl (lv_at hl 0 rfl) ?_
  refine lv_iload_n hx hb zd_L_law_449 rfl (lv_at hl 3 rfl) ?_
  refine lv_iconst (v := 1) hx hb zd_L_law_450 (by decide) ?_
  refine lv_iadd hx hb zd_L_law_451 ?_
  refine zl_sld S hw hX hz hH hbl (zl_in e3 hi7 hL 1 (by decide)) zd_L_law_452 ?_
  refine zw_callV (n := 1) (ci := 10) (q := zc_cl[10]) (As := [.int ((xs (x3 + 1).toNatClampNeg))]) (rest := [.int (r1)]) S hK hw (zt_X10_holds l g h q (xs (x3 + 1).toNatClampNeg) _ e2) zm_1251 zm_1252 zm_1253 zq_X10_holds zm_79 (by decide +kernel) ⟨Nat.le_of_ble_eq_true rfl, Nat.le_of_ble_eq_true rfl⟩ rfl rfl rfl (zi_X10_holds e2) hl.1 rfl (by simp [zv_cat, zv_ci, zv_cj]) zd_L_law_453 ⟨(by show (cells + 0) + (0 : Nat) ≤ (600000 : Nat); omega), (by show (slots + 0) + (0 : Nat) ≤ (7302250 : Nat); omega)⟩ (fun H locs hw => ?_)
  replace hw : zc_W g h H locs := hw
  refine W.widen (k := ((cells + 0) + 0)) (n := ((slots + 0) + 0)) (Nat.le_refl _) (Nat.le_refl _) ?_
  refine lv_icmp_eq (tgt := 1469) hx hb zd_L_law_456 (by decide) (fun _ => ?_) (fun c9 => absurd e12 c9)
  exact hnext h _ _ _ _ _ hw hI hl (by omega) (by omega)
set_option maxHeartbeats 4000000 in
set_option maxRecDepth 20000 in
theorem zl_case6 {p : Program} {e : Env} {s : State} {m : MethodId} {below : List Frame} {meth : Method} {c : Code} (l : Launch) {b L : Nat} {xs : Nat → Int32} (hL : L ≤ 3584) (g : zc_G) (P q : Nat) (Inv : zc_H → Prop) (S : CallFix p m c code 4 s #[Value.ref b] (.initialized RL :: zc_T) RL) (hK : zc_K g s) (hX : va_X b L xs s s.heap) (hz : g.2.2.1.1 = s.heap.size) (hH : g.2.2.1.2 = s.heap) (hbl : b < s.heap.size) {i : Nat} {x3 : Int32} (e3 : x3 = nI (7 * i)) (hi7 : 7 * i + 7 ≤ L) {h : zc_H} {H : Heap} {locs : List Loc} {ls : Array Slot} {cells slots : Nat} (hw : zc_W g h H locs) (hI : Inv h) (hl : lv_has ls 4 [(0, va_rf (some b)), (1, va_rf (some P)), (2, va_rf (some q)), (3, .int x3)]) (hcl : cells + 600 ≤ 600000) (hsl : slots + 24000 ≤ 7302250) (hop6 : zl_op6 Inv P q) (hnext : ∀ (h : zc_H) (H : Heap) (locs : List Loc) (ls : Array Slot) (cells1 slots1 : Nat), zc_W g h H locs → Inv h → lv_has ls 4 [(0, va_rf (some b)), (1, va_rf (some P)), (2, va_rf (some q)), (3, .int x3)] → cells1 ≤ cells + 289 → slots1 ≤ slots + 11560 → W p l e room_1 s m #[Value.ref b] below meth c H locs cells1 slots1 (lw_Z below #[Value.ref b] s) (F0 m 1469 ls [])) : W p l e room_1 s m #[Value.ref b] below meth c H locs cells slots (lw_Z below #[Value.ref b] s) (F0 m 461 ls []) := by
  have hx := S.1
  have hb := S.2.1
  refine zl_aload_n hx hb zd_L_law_461 rfl (lv_at hl 1 rfl) ?_
  refine zl_aload_n hx hb zd_L_law_462 rfl (lv_at hl 0 rfl) ?_
  refine lv_iload_n hx hb zd_L_law_463 rfl (lv_at hl 3 rfl) ?_
  refine lv_iconst (v := 1) hx hb zd_L_law_464 (by decide) ?_
  refine lv_iadd hx hb zd_L_law_465 ?_
  refine zl_sld S hw hX hz hH hbl (zl_in e3 hi7 hL 1 (by decide)) zd_L_law_466 ?_
  refine zl_aload_n hx hb zd_L_law_467 rfl (lv_at hl 0 rfl) ?_
  refine lv_iload_n hx hb zd_L_law_468 rfl (lv_at hl 3 rfl) ?_
  refine lv_iconst (v := 2) hx hb zd_L_law_469 (by decide) ?_
  refine lv_iadd hx hb zd_L_law_470 ?_
  refine zl_sld S hw hX hz hH hbl (zl_in e3 hi7 hL 2 (by decide)) zd_L_law_471 ?_
  obtain ⟨r1, r2, e1, e2, e12, hI⟩ := hop6 h (xs (x3 + 1).toNatClampNeg) (xs (x3 + 2).toNatClampNeg) hI
  refine zw_callV (n := 2) (ci := 9) (q := zc_cl[9]) (As := [.int ((xs (x3 + 1).toNatClampNeg)), .int ((xs (x3 + 2).toNatClampNeg))]) (rest := []) S hK hw (zt_X9_says l g h P (xs (x3 + 1).toNatClampNeg) (xs (x3 + 2).toNatClampNeg) _ e1) zm_451 zm_452 zm_453 zq_X9_says zm_68 (by decide +kernel) ⟨Nat.le_of_ble_eq_true rfl, Nat.le_of_ble_eq_true rfl⟩ rfl rfl rfl (zi_X9_says e1) hl.1 rfl (by simp [zv_cat, zv_ci, zv_cj]) zd_L_law_472 ⟨(by show cells + (0 : Nat) ≤ (600000 : Nat); omega), (by show slots + (0 : Nat) ≤ (7302250 : Nat); omega)⟩ (fun H locs hw => ?_)
  replace hw : zc_W g r1.1 H locs := hw
  refine W.widen (k := (cells + 0)) (n := (slots + 0)) (Nat.le_refl _) (Nat.le_refl _) ?_
  refine zl_aload_n hx hb zd_L_law_475 rfl (lv_at hl 2 rfl) ?_
  refine zl_aload_n hx hb zd_L_law_476 rfl (lv_at hl 0 rfl) ?_
  refine lv_iload_n hx hb zd_L_law_477 rfl (lv_at hl 3 rfl) ?_
  refine lv_iconst (v := 1) hx hb zd_L_law_478 (by decide) ?_
  refine lv_iadd hx hb zd_L_law_479 ?_
  refine zl_sld S hw hX hz hH hbl (zl_in e3 hi7 hL 1 (by decide)) zd_L_law_480 ?_
  refine zl_aload_n hx hb zd_L_law_481 rfl (lv_at hl 0 rfl) ?_
  refine lv_iload_n hx hb zd_L_law_482 rfl (lv_at hl 3 rfl) ?_
  refine lv_iconst (v := 2) hx hb zd_L_law_483 (by decide) ?_
  refine lv_iadd hx hb zd_L_law_484 ?_
  refine zl_sld S hw hX hz hH hbl (zl_in e3 hi7 hL 2 (by decide)) zd_L_law_485 ?_
  refine zw_callV (n := 2) (ci := 10) (q := zc_cl[10]) (As := [.int ((xs (x3 + 1).toNatClampNeg)), .int ((xs (x3 + 2).toNatClampNeg))]) (rest := [.int (r1.2)]) S hK hw (zt_X10_says l g r1.1 q (xs (x3 + 1).toNatClampNeg) (xs (x3 + 2).toNatClampNeg) _ e2) zm_1255 zm_1256 zm_1257 zq_X10_says zm_79 (by decide +kernel) ⟨Nat.le_of_ble_eq_true rfl, Nat.le_of_ble_eq_true rfl⟩ rfl rfl rfl (zi_X10_says e2) hl.1 rfl (by simp [zv_cat, zv_ci, zv_cj]) zd_L_law_486 ⟨(by show (cells + 0) + (0 : Nat) ≤ (600000 : Nat); omega), (by show (slots + 0) + (0 : Nat) ≤ (7302250 : Nat); omega)⟩ (fun H locs hw => ?_)
  replace hw : zc_W g r2.1 H locs := hw
  refine W.widen (k := ((cells + 0) + 0)) (n := ((slots + 0) + 0)) (Nat.le_refl _) (Nat.le_refl _) ?_
  refine lv_icmp_eq (tgt := 1469) hx hb zd_L_law_489 (by decide) (fun _ => ?_) (fun c9 => absurd e12 c9)
  exact hnext r2.1 _ _ _ _ _ hw hI hl (by omega) (by omega)
set_option maxHeartbeats 4000000 in
set_option maxRecDepth 20000 in
theorem zl_case7 {p : Program} {e : Env} {s : State} {m : MethodId} {below : List Frame} {meth : Method} {c : Code} (l : Launch) {b L : Nat} {xs : Nat → Int32} (hL : L ≤ 3584) (g : zc_G) (P q : Nat) (Inv : zc_H → Prop) (S : CallFix p m c code 4 s #[Value.ref b] (.initialized RL :: zc_T) RL) (hK : zc_K g s) (hX : va_X b L xs s s.heap) (hz : g.2.2.1.1 = s.heap.size) (hH : g.2.2.1.2 = s.heap) (hbl : b < s.heap.size) {i : Nat} {x3 : Int32} (e3 : x3 = nI (7 * i)) (hi7 : 7 * i + 7 ≤ L) {h : zc_H} {H : Heap} {locs : List Loc} {ls : Array Slot} {cells slots : Nat} (hw : zc_W g h H locs) (hI : Inv h) (hl : lv_has ls 4 [(0, va_rf (some b)), (1, va_rf (some P)), (2, va_rf (some q)), (3, .int x3)]) (hcl : cells + 600 ≤ 600000) (hsl : slots + 24000 ≤ 7302250) (hop7 : zl_op7 Inv P q) (hnext : ∀ (h : zc_H) (H : Heap) (locs : List Loc) (ls : Array Slot) (cells1 slots1 : Nat), zc_W g h H locs → Inv h → lv_has ls 4 [(0, va_rf (some b)), (1, va_rf (some P)), (2, va_rf (some q)), (3, .int x3)] → cells1 ≤ cells + 289 → slots1 ≤ slots + 11560 → W p l e room_1 s m #[Value.ref b] below meth c H locs cells1 slots1 (lw_Z below #[Value.ref b] s) (F0 m 1469 ls [])) : W p l e room_1 s m #[Value.ref b] below meth c H locs cells slots (lw_Z below #[Value.ref b] s) (F0 m 494 ls []) := by
  have hx := S.1
  have hb := S.2.1
  refine zl_aload_n hx hb zd_L_law_494 rfl (lv_at hl 1 rfl) ?_
  refine zl_aload_n hx hb zd_L_law_495 rfl (lv_at hl 0 rfl) ?_
  refine lv_iload_n hx hb zd_L_law_496 rfl (lv_at hl 3 rfl) ?_
  refine lv_iconst (v := 1) hx hb zd_L_law_497 (by decide) ?_
  refine lv_iadd hx hb zd_L_law_498 ?_
  refine zl_sld S hw hX hz hH hbl (zl_in e3 hi7 hL 1 (by decide)) zd_L_law_499 ?_
  refine zl_aload_n hx hb zd_L_law_500 rfl (lv_at hl 0 rfl) ?_
  refine lv_iload_n hx hb zd_L_law_501 rfl (lv_at hl 3 rfl) ?_
  refine lv_iconst (v := 2) hx hb zd_L_law_502 (by decide) ?_
  refine lv_iadd hx hb zd_L_law_503 ?_
  refine zl_sld S hw hX hz hH hbl (zl_in e3 hi7 hL 2 (by decide)) zd_L_law_504 ?_
  obtain ⟨r1, r2, e1, e2, e12, hI⟩ := hop7 h (xs (x3 + 1).toNatClampNeg) (xs (x3 + 2).toNatClampNeg) hI
  refine zw_callV (n := 2) (ci := 9) (q := zc_cl[9]) (As := [.int ((xs (x3 + 1).toNatClampNeg)), .int ((xs (x3 + 2).toNatClampNeg))]) (rest := []) S hK hw (zt_X9_revise l g h P (xs (x3 + 1).toNatClampNeg) (xs (x3 + 2).toNatClampNeg) _ e1) zm_478 zm_479 zm_480 zq_X9_revise zm_68 (by decide +kernel) ⟨Nat.le_of_ble_eq_true rfl, Nat.le_of_ble_eq_true rfl⟩ rfl rfl rfl (zi_X9_revise e1) hl.1 rfl (by simp [zv_cat, zv_ci, zv_cj]) zd_L_law_505 ⟨(by show cells + (4 : Nat) ≤ (600000 : Nat); omega), (by show slots + (125 : Nat) ≤ (7302250 : Nat); omega)⟩ (fun H locs hw => ?_)
  replace hw : zc_W g r1.1 H locs := hw
  refine W.widen (k := (cells + 4)) (n := (slots + 125)) (Nat.le_refl _) (Nat.le_refl _) ?_
  refine zl_aload_n hx hb zd_L_law_508 rfl (lv_at hl 2 rfl) ?_
  refine zl_aload_n hx hb zd_L_law_509 rfl (lv_at hl 0 rfl) ?_
  refine lv_iload_n hx hb zd_L_law_510 rfl (lv_at hl 3 rfl) ?_
  refine lv_iconst (v := 1) hx hb zd_L_law_511 (by decide) ?_
  refine lv_iadd hx hb zd_L_law_512 ?_
  refine zl_sld S hw hX hz hH hbl (zl_in e3 hi7 hL 1 (by decide)) zd_L_law_513 ?_
  refine zl_aload_n hx hb zd_L_law_514 rfl (lv_at hl 0 rfl) ?_
  refine lv_iload_n hx hb zd_L_law_515 rfl (lv_at hl 3 rfl) ?_
  refine lv_iconst (v := 2) hx hb zd_L_law_516 (by decide) ?_
  refine lv_iadd hx hb zd_L_law_517 ?_
  refine zl_sld S hw hX hz hH hbl (zl_in e3 hi7 hL 2 (by decide)) zd_L_law_518 ?_
  refine zw_callV (n := 2) (ci := 10) (q := zc_cl[10]) (As := [.int ((xs (x3 + 1).toNatClampNeg)), .int ((xs (x3 + 2).toNatClampNeg))]) (rest := [.int (r1.2)]) S hK hw (zt_X10_revise l g r1.1 q (xs (x3 + 1).toNatClampNeg) (xs (x3 + 2).toNatClampNeg) _ e2) zm_1269 zm_1270 zm_1271 zq_X10_revise zm_79 (by decide +kernel) ⟨Nat.le_of_ble_eq_true rfl, Nat.le_of_ble_eq_true rfl⟩ rfl rfl rfl (zi_X10_revise e2) hl.1 rfl (by simp [zv_cat, zv_ci, zv_cj]) zd_L_law_519 ⟨(by show (cells + 4) + (0 : Nat) ≤ (600000 : Nat); omega), (by show (slots + 125) + (0 : Nat) ≤ (7302250 : Nat); omega)⟩ (fun H locs hw => ?_)
  replace hw : zc_W g r2.1 H locs := hw
  refine W.widen (k := ((cells + 4) + 0)) (n := ((slots + 125) + 0)) (Nat.le_refl _) (Nat.le_refl _) ?_
  refine lv_icmp_eq (tgt := 1469) hx hb zd_L_law_522 (by decide) (fun _ => ?_) (fun c9 => absurd e12 c9)
  exact hnext r2.1 _ _ _ _ _ hw hI hl (by omega) (by omega)
set_option maxHeartbeats 4000000 in
set_option maxRecDepth 20000 in
theorem zl_case8 {p : Program} {e : Env} {s : State} {m : MethodId} {below : List Frame} {meth : Method} {c : Code} (l : Launch) {b L : Nat} {xs : Nat → Int32} (hL : L ≤ 3584) (g : zc_G) (P q : Nat) (Inv : zc_H → Prop) (S : CallFix p m c code 4 s #[Value.ref b] (.initialized RL :: zc_T) RL) (hK : zc_K g s) (hX : va_X b L xs s s.heap) (hz : g.2.2.1.1 = s.heap.size) (hH : g.2.2.1.2 = s.heap) (hbl : b < s.heap.size) {i : Nat} {x3 : Int32} (e3 : x3 = nI (7 * i)) (hi7 : 7 * i + 7 ≤ L) {h : zc_H} {H : Heap} {locs : List Loc} {ls : Array Slot} {cells slots : Nat} (hw : zc_W g h H locs) (hI : Inv h) (hl : lv_has ls 4 [(0, va_rf (some b)), (1, va_rf (some P)), (2, va_rf (some q)), (3, .int x3)]) (hcl : cells + 600 ≤ 600000) (hsl : slots + 24000 ≤ 7302250) (hop8 : zl_op8 Inv P q) (hnext : ∀ (h : zc_H) (H : Heap) (locs : List Loc) (ls : Array Slot) (cells1 slots1 : Nat), zc_W g h H locs → Inv h → lv_has ls 4 [(0, va_rf (some b)), (1, va_rf (some P)), (2, va_rf (some q)), (3, .int x3)] → cells1 ≤ cells + 289 → slots1 ≤ slots + 11560 → W p l e room_1 s m #[Value.ref b] below meth c H locs cells1 slots1 (lw_Z below #[Value.ref b] s) (F0 m 1469 ls [])) : W p l e room_1 s m #[Value.ref b] below meth c H locs cells slots (lw_Z below #[Value.ref b] s) (F0 m 527 ls []) := by
  have hx := S.1
  have hb := S.2.1
  refine zl_aload_n hx hb zd_L_law_527 rfl (lv_at hl 1 rfl) ?_
  obtain ⟨r1, r2, e1, e2, e12, hI⟩ := hop8 h hI
  refine zw_callV (n := 0) (ci := 9) (q := zc_cl[9]) (As := []) (rest := []) S hK hw (zt_X9_fault l g h P _ e1) zm_654 zm_655 zm_656 zq_X9_fault zm_68 (by decide +kernel) ⟨Nat.le_of_ble_eq_true rfl, Nat.le_of_ble_eq_true rfl⟩ rfl rfl rfl (zi_X9_fault e1) hl.1 rfl (by simp [zv_cat, zv_ci, zv_cj]) zd_L_law_528 ⟨(by show cells + (0 : Nat) ≤ (600000 : Nat); omega), (by show slots + (0 : Nat) ≤ (7302250 : Nat); omega)⟩ (fun H locs hw => ?_)
  replace hw : zc_W g h H locs := hw
  refine W.widen (k := (cells + 0)) (n := (slots + 0)) (Nat.le_refl _) (Nat.le_refl _) ?_
  refine zl_aload_n hx hb zd_L_law_531 rfl (lv_at hl 2 rfl) ?_
  refine zw_callV (n := 0) (ci := 10) (q := zc_cl[10]) (As := []) (rest := [.int (r1)]) S hK hw (zt_X10_fault l g h q _ e2) zm_1314 zm_1315 zm_1316 zq_X10_fault zm_79 (by decide +kernel) ⟨Nat.le_of_ble_eq_true rfl, Nat.le_of_ble_eq_true rfl⟩ rfl rfl rfl (zi_X10_fault e2) hl.1 rfl (by simp [zv_cat, zv_ci, zv_cj]) zd_L_law_532 ⟨(by show (cells + 0) + (0 : Nat) ≤ (600000 : Nat); omega), (by show (slots + 0) + (0 : Nat) ≤ (7302250 : Nat); omega)⟩ (fun H locs hw => ?_)
  replace hw : zc_W g h H locs := hw
  refine W.widen (k := ((cells + 0) + 0)) (n := ((slots + 0) + 0)) (Nat.le_refl _) (Nat.le_refl _) ?_
  refine lv_icmp_eq (tgt := 1469) hx hb zd_L_law_535 (by decide) (fun _ => ?_) (fun c9 => absurd e12 c9)
  exact hnext h _ _ _ _ _ hw hI hl (by omega) (by omega)
set_option maxHeartbeats 4000000 in
set_option maxRecDepth 20000 in
theorem zl_case9 {p : Program} {e : Env} {s : State} {m : MethodId} {below : List Frame} {meth : Method} {c : Code} (l : Launch) {b L : Nat} {xs : Nat → Int32} (hL : L ≤ 3584) (g : zc_G) (P q : Nat) (Inv : zc_H → Prop) (S : CallFix p m c code 4 s #[Value.ref b] (.initialized RL :: zc_T) RL) (hK : zc_K g s) (hX : va_X b L xs s s.heap) (hz : g.2.2.1.1 = s.heap.size) (hH : g.2.2.1.2 = s.heap) (hbl : b < s.heap.size) {i : Nat} {x3 : Int32} (e3 : x3 = nI (7 * i)) (hi7 : 7 * i + 7 ≤ L) {h : zc_H} {H : Heap} {locs : List Loc} {ls : Array Slot} {cells slots : Nat} (hw : zc_W g h H locs) (hI : Inv h) (hl : lv_has ls 4 [(0, va_rf (some b)), (1, va_rf (some P)), (2, va_rf (some q)), (3, .int x3)]) (hcl : cells + 600 ≤ 600000) (hsl : slots + 24000 ≤ 7302250) (hop9 : zl_op9 Inv P q) (hnext : ∀ (h : zc_H) (H : Heap) (locs : List Loc) (ls : Array Slot) (cells1 slots1 : Nat), zc_W g h H locs → Inv h → lv_has ls 4 [(0, va_rf (some b)), (1, va_rf (some P)), (2, va_rf (some q)), (3, .int x3)] → cells1 ≤ cells + 289 → slots1 ≤ slots + 11560 → W p l e room_1 s m #[Value.ref b] below meth c H locs cells1 slots1 (lw_Z below #[Value.ref b] s) (F0 m 1469 ls [])) : W p l e room_1 s m #[Value.ref b] below meth c H locs cells slots (lw_Z below #[Value.ref b] s) (F0 m 540 ls []) := by
  have hx := S.1
  have hb := S.2.1
  refine zl_aload_n hx hb zd_L_law_540 rfl (lv_at hl 1 rfl) ?_
  refine zl_aload_n hx hb zd_L_law_541 rfl (lv_at hl 0 rfl) ?_
  refine lv_iload_n hx hb zd_L_law_542 rfl (lv_at hl 3 rfl) ?_
  refine lv_iconst (v := 1) hx hb zd_L_law_543 (by decide) ?_
  refine lv_iadd hx hb zd_L_law_544 ?_
  refine zl_sld S hw hX hz hH hbl (zl_in e3 hi7 hL 1 (by decide)) zd_L_law_545 ?_
  obtain ⟨r1, r2, e1, e2, e12, hI⟩ := hop9 h (xs (x3 + 1).toNatClampNeg) hI
  refine zw_callV (n := 1) (ci := 9) (q := zc_cl[9]) (As := [.int ((xs (x3 + 1).toNatClampNeg))]) (rest := []) S hK hw (zt_X9_lines l g h P (xs (x3 + 1).toNatClampNeg) _ e1) zm_658 zm_659 zm_660 zq_X9_lines zm_68 (by decide +kernel) ⟨Nat.le_of_ble_eq_true rfl, Nat.le_of_ble_eq_true rfl⟩ rfl rfl rfl (zi_X9_lines e1) hl.1 rfl (by simp [zv_cat, zv_ci, zv_cj]) zd_L_law_546 ⟨(by show cells + (0 : Nat) ≤ (600000 : Nat); omega), (by show slots + (0 : Nat) ≤ (7302250 : Nat); omega)⟩ (fun H locs hw => ?_)
  replace hw : zc_W g r1.1 H locs := hw
  refine W.widen (k := (cells + 0)) (n := (slots + 0)) (Nat.le_refl _) (Nat.le_refl _) ?_
  refine zl_aload_n hx hb zd_L_law_549 rfl (lv_at hl 2 rfl) ?_
  refine zl_aload_n hx hb zd_L_law_550 rfl (lv_at hl 0 rfl) ?_
  refine lv_iload_n hx hb zd_L_law_551 rfl (lv_at hl 3 rfl) ?_
  refine lv_iconst (v := 1) hx hb zd_L_law_552 (by decide) ?_
  refine lv_iadd hx hb zd_L_law_553 ?_
  refine zl_sld S hw hX hz hH hbl (zl_in e3 hi7 hL 1 (by decide)) zd_L_law_554 ?_
  refine zw_callV (n := 1) (ci := 10) (q := zc_cl[10]) (As := [.int ((xs (x3 + 1).toNatClampNeg))]) (rest := [.int (r1.2)]) S hK hw (zt_X10_lines l g r1.1 q (xs (x3 + 1).toNatClampNeg) _ e2) zm_1318 zm_1319 zm_1320 zq_X10_lines zm_79 (by decide +kernel) ⟨Nat.le_of_ble_eq_true rfl, Nat.le_of_ble_eq_true rfl⟩ rfl rfl rfl (zi_X10_lines e2) hl.1 rfl (by simp [zv_cat, zv_ci, zv_cj]) zd_L_law_555 ⟨(by show (cells + 0) + (0 : Nat) ≤ (600000 : Nat); omega), (by show (slots + 0) + (0 : Nat) ≤ (7302250 : Nat); omega)⟩ (fun H locs hw => ?_)
  replace hw : zc_W g r2.1 H locs := hw
  refine W.widen (k := ((cells + 0) + 0)) (n := ((slots + 0) + 0)) (Nat.le_refl _) (Nat.le_refl _) ?_
  refine lv_icmp_eq (tgt := 1469) hx hb zd_L_law_558 (by decide) (fun _ => ?_) (fun c9 => absurd e12 c9)
  exact hnext r2.1 _ _ _ _ _ hw hI hl (by omega) (by omega)
set_option maxHeartbeats 4000000 in
set_option maxRecDepth 20000 in
theorem zl_case10 {p : Program} {e : Env} {s : State} {m : MethodId} {below : List Frame} {meth : Method} {c : Code} (l : Launch) {b L : Nat} {xs : Nat → Int32} (hL : L ≤ 3584) (g : zc_G) (P q : Nat) (Inv : zc_H → Prop) (S : CallFix p m c code 4 s #[Value.ref b] (.initialized RL :: zc_T) RL) (hK : zc_K g s) (hX : va_X b L xs s s.heap) (hz : g.2.2.1.1 = s.heap.size) (hH : g.2.2.1.2 = s.heap) (hbl : b < s.heap.size) {i : Nat} {x3 : Int32} (e3 : x3 = nI (7 * i)) (hi7 : 7 * i + 7 ≤ L) {h : zc_H} {H : Heap} {locs : List Loc} {ls : Array Slot} {cells slots : Nat} (hw : zc_W g h H locs) (hI : Inv h) (hl : lv_has ls 4 [(0, va_rf (some b)), (1, va_rf (some P)), (2, va_rf (some q)), (3, .int x3)]) (hcl : cells + 600 ≤ 600000) (hsl : slots + 24000 ≤ 7302250) (hop10 : zl_op10 Inv P q) (hnext : ∀ (h : zc_H) (H : Heap) (locs : List Loc) (ls : Array Slot) (cells1 slots1 : Nat), zc_W g h H locs → Inv h → lv_has ls 4 [(0, va_rf (some b)), (1, va_rf (some P)), (2, va_rf (some q)), (3, .int x3)] → cells1 ≤ cells + 289 → slots1 ≤ slots + 11560 → W p l e room_1 s m #[Value.ref b] below meth c H locs cells1 slots1 (lw_Z below #[Value.ref b] s) (F0 m 1469 ls [])) : W p l e room_1 s m #[Value.ref b] below meth c H locs cells slots (lw_Z below #[Value.ref b] s) (F0 m 563 ls []) := by
  have hx := S.1
  have hb := S.2.1
  refine zl_aload_n hx hb zd_L_law_563 rfl (lv_at hl 1 rfl) ?_
  refine zl_aload_n hx hb zd_L_law_564 rfl (lv_at hl 0 rfl) ?_
  refine lv_iload_n hx hb zd_L_law_565 rfl (lv_at hl 3 rfl) ?_
  refine lv_iconst (v := 1) hx hb zd_L_law_566 (by decide) ?_
  refine lv_iadd hx hb zd_L_law_567 ?_
  refine zl_sld S hw hX hz hH hbl (zl_in e3 hi7 hL 1 (by decide)) zd_L_law_568 ?_
  refine zl_aload_n hx hb zd_L_law_569 rfl (lv_at hl 0 rfl) ?_
  refine lv_iload_n hx hb zd_L_law_570 rfl (lv_at hl 3 rfl) ?_
  refine lv_iconst (v := 2) hx hb zd_L_law_571 (by decide) ?_
  refine lv_iadd hx hb zd_L_law_572 ?_
  refine zl_sld S hw hX hz hH hbl (zl_in e3 hi7 hL 2 (by decide)) zd_L_law_573 ?_
  refine zl_aload_n hx hb zd_L_law_574 rfl (lv_at hl 0 rfl) ?_
  refine lv_iload_n hx hb zd_L_law_575 rfl (lv_at hl 3 rfl) ?_
  refine lv_iconst (v := 3) hx hb zd_L_law_576 (by decide) ?_
  refine lv_iadd hx hb zd_L_law_577 ?_
  refine zl_sld S hw hX hz hH hbl (zl_in e3 hi7 hL 3 (by decide)) zd_L_law_578 ?_
  obtain ⟨r1, r2, e1, e2, e12, hI⟩ := hop10 h (xs (x3 + 1).toNatClampNeg) (xs (x3 + 2).toNatClampNeg) (xs (x3 + 3).toNatClampNeg) hI
  refine zw_callV (n := 3) (ci := 9) (q := zc_cl[9]) (As := [.int ((xs (x3 + 1).toNatClampNeg)), .int ((xs (x3 + 2).toNatClampNeg)), .int ((xs (x3 + 3).toNatClampNeg))]) (rest := []) S hK hw (zt_X9_letter l g h P (xs (x3 + 1).toNatClampNeg) (xs (x3 + 2).toNatClampNeg) (xs (x3 + 3).toNatClampNeg) _ e1) zm_663 zm_664 zm_665 zq_X9_letter zm_68 (by decide +kernel) ⟨Nat.le_of_ble_eq_true rfl, Nat.le_of_ble_eq_true rfl⟩ rfl rfl rfl (zi_X9_letter e1) hl.1 rfl (by simp [zv_cat, zv_ci, zv_cj]) zd_L_law_579 ⟨(by show cells + (0 : Nat) ≤ (600000 : Nat); omega), (by show slots + (0 : Nat) ≤ (7302250 : Nat); omega)⟩ (fun H locs hw => ?_)
  replace hw : zc_W g r1.1 H locs := hw
  refine W.widen (k := (cells + 0)) (n := (slots + 0)) (Nat.le_refl _) (Nat.le_refl _) ?_
  refine zl_aload_n hx hb zd_L_law_582 rfl (lv_at hl 2 rfl) ?_
  refine zl_aload_n hx hb zd_L_law_583 rfl (lv_at hl 0 rfl) ?_
  refine lv_iload_n hx hb zd_L_law_584 rfl (lv_at hl 3 rfl) ?_
  refine lv_iconst (v := 1) hx hb zd_L_law_585 (by decide) ?_
  refine lv_iadd hx hb zd_L_law_586 ?_
  refine zl_sld S hw hX hz hH hbl (zl_in e3 hi7 hL 1 (by decide)) zd_L_law_587 ?_
  refine zl_aload_n hx hb zd_L_law_588 rfl (lv_at hl 0 rfl) ?_
  refine lv_iload_n hx hb zd_L_law_589 rfl (lv_at hl 3 rfl) ?_
  refine lv_iconst (v := 2) hx hb zd_L_law_590 (by decide) ?_
  refine lv_iadd hx hb zd_L_law_591 ?_
  refine zl_sld S hw hX hz hH hbl (zl_in e3 hi7 hL 2 (by decide)) zd_L_law_592 ?_
  refine zl_aload_n hx hb zd_L_law_593 rfl (lv_at hl 0 rfl) ?_
  refine lv_iload_n hx hb zd_L_law_594 rfl (lv_at hl 3 rfl) ?_
  refine lv_iconst (v := 3) hx hb zd_L_law_595 (by decide) ?_
  refine lv_iadd hx hb zd_L_law_596 ?_
  refine zl_sld S hw hX hz hH hbl (zl_in e3 hi7 hL 3 (by decide)) zd_L_law_597 ?_
  refine zw_callV (n := 3) (ci := 10) (q := zc_cl[10]) (As := [.int ((xs (x3 + 1).toNatClampNeg)), .int ((xs (x3 + 2).toNatClampNeg)), .int ((xs (x3 + 3).toNatClampNeg))]) (rest := [.int (r1.2)]) S hK hw (zt_X10_letter l g r1.1 q (xs (x3 + 1).toNatClampNeg) (xs (x3 + 2).toNatClampNeg) (xs (x3 + 3).toNatClampNeg) _ e2) zm_1322 zm_1323 zm_1324 zq_X10_letter zm_79 (by decide +kernel) ⟨Nat.le_of_ble_eq_true rfl, Nat.le_of_ble_eq_true rfl⟩ rfl rfl rfl (zi_X10_letter e2) hl.1 rfl (by simp [zv_cat, zv_ci, zv_cj]) zd_L_law_598 ⟨(by show (cells + 0) + (0 : Nat) ≤ (600000 : Nat); omega), (by show (slots + 0) + (0 : Nat) ≤ (7302250 : Nat); omega)⟩ (fun H locs hw => ?_)
  replace hw : zc_W g r2.1 H locs := hw
  refine W.widen (k := ((cells + 0) + 0)) (n := ((slots + 0) + 0)) (Nat.le_refl _) (Nat.le_refl _) ?_
  refine lv_icmp_eq (tgt := 1469) hx hb zd_L_law_601 (by decide) (fun _ => ?_) (fun c9 => absurd e12 c9)
  exact hnext r2.1 _ _ _ _ _ hw hI hl (by omega) (by omega)
set_option maxHeartbeats 4000000 in
set_option maxRecDepth 20000 in
theorem zl_case11 {p : Program} {e : Env} {s : State} {m : MethodId} {below : List Frame} {meth : Method} {c : Code} (l : Launch) {b L : Nat} {xs : Nat → Int32} (hL : L ≤ 3584) (g : zc_G) (P q : Nat) (Inv : zc_H → Prop) (S : CallFix p m c code 4 s #[Value.ref b] (.initialized RL :: zc_T) RL) (hK : zc_K g s) (hX : va_X b L xs s s.heap) (hz : g.2.2.1.1 = s.heap.size) (hH : g.2.2.1.2 = s.heap) (hbl : b < s.heap.size) {i : Nat} {x3 : Int32} (e3 : x3 = nI (7 * i)) (hi7 : 7 * i + 7 ≤ L) {h : zc_H} {H : Heap} {locs : List Loc} {ls : Array Slot} {cells slots : Nat} (hw : zc_W g h H locs) (hI : Inv h) (hl : lv_has ls 4 [(0, va_rf (some b)), (1, va_rf (some P)), (2, va_rf (some q)), (3, .int x3)]) (hcl : cells + 600 ≤ 600000) (hsl : slots + 24000 ≤ 7302250) (hop11 : zl_op11 Inv P q) (hnext : ∀ (h : zc_H) (H : Heap) (locs : List Loc) (ls : Array Slot) (cells1 slots1 : Nat), zc_W g h H locs → Inv h → lv_has ls 4 [(0, va_rf (some b)), (1, va_rf (some P)), (2, va_rf (some q)), (3, .int x3)] → cells1 ≤ cells + 289 → slots1 ≤ slots + 11560 → W p l e room_1 s m #[Value.ref b] below meth c H locs cells1 slots1 (lw_Z below #[Value.ref b] s) (F0 m 1469 ls [])) : W p l e room_1 s m #[Value.ref b] below meth c H locs cells slots (lw_Z below #[Value.ref b] s) (F0 m 606 ls []) := by
  have hx := S.1
  have hb := S.2.1
  refine zl_aload_n hx hb zd_L_law_606 rfl (lv_at hl 1 rfl) ?_
  refine zl_aload_n hx hb zd_L_law_607 rfl (lv_at hl 0 rfl) ?_
  refine lv_iload_n hx hb zd_L_law_608 rfl (lv_at hl 3 rfl) ?_
  refine lv_iconst (v := 1) hx hb zd_L_law_609 (by decide) ?_
  refine lv_iadd hx hb zd_L_law_610 ?_
  refine zl_sld S hw hX hz hH hbl (zl_in e3 hi7 hL 1 (by decide)) zd_L_law_611 ?_
  obtain ⟨r1, r2, e1, e2, e12, hI⟩ := hop11 h (xs (x3 + 1).toNatClampNeg) hI
  refine zw_callV (n := 1) (ci := 9) (q := zc_cl[9]) (As := [.int ((xs (x3 + 1).toNatClampNeg))]) (rest := []) S hK hw (zt_X9_former l g h P (xs (x3 + 1).toNatClampNeg) _ e1) zm_675 zm_676 zm_677 zq_X9_former zm_68 (by decide +kernel) ⟨Nat.le_of_ble_eq_true rfl, Nat.le_of_ble_eq_true rfl⟩ rfl rfl rfl (zi_X9_former e1) hl.1 rfl (by simp [zv_cat, zv_ci, zv_cj]) zd_L_law_612 ⟨(by show cells + (0 : Nat) ≤ (600000 : Nat); omega), (by show slots + (0 : Nat) ≤ (7302250 : Nat); omega)⟩ (fun H locs hw => ?_)
  replace hw : zc_W g r1.1 H locs := hw
  refine W.widen (k := (cells + 0)) (n := (slots + 0)) (Nat.le_refl _) (Nat.le_refl _) ?_
  refine zl_aload_n hx hb zd_L_law_615 rfl (lv_at hl 2 rfl) ?_
  refine zl_aload_n hx hb zd_L_law_616 rfl (lv_at hl 0 rfl) ?_
  refine lv_iload_n hx hb zd_L_law_617 rfl (lv_at hl 3 rfl) ?_
  refine lv_iconst (v := 1) hx hb zd_L_law_618 (by decide) ?_
  refine lv_iadd hx hb zd_L_law_619 ?_
  refine zl_sld S hw hX hz hH hbl (zl_in e3 hi7 hL 1 (by decide)) zd_L_law_620 ?_
  refine zw_callV (n := 1) (ci := 10) (q := zc_cl[10]) (As := [.int ((xs (x3 + 1).toNatClampNeg))]) (rest := [.int (r1.2)]) S hK hw (zt_X10_former l g r1.1 q (xs (x3 + 1).toNatClampNeg) _ e2) zm_1331 zm_1332 zm_1333 zq_X10_former zm_79 (by decide +kernel) ⟨Nat.le_of_ble_eq_true rfl, Nat.le_of_ble_eq_true rfl⟩ rfl rfl rfl (zi_X10_former e2) hl.1 rfl (by simp [zv_cat, zv_ci, zv_cj]) zd_L_law_621 ⟨(by show (cells + 0) + (0 : Nat) ≤ (600000 : Nat); omega), (by show (slots + 0) + (0 : Nat) ≤ (7302250 : Nat); omega)⟩ (fun H locs hw => ?_)
  replace hw : zc_W g r2.1 H locs := hw
  refine W.widen (k := ((cells + 0) + 0)) (n := ((slots + 0) + 0)) (Nat.le_refl _) (Nat.le_refl _) ?_
  refine lv_icmp_eq (tgt := 1469) hx hb zd_L_law_624 (by decide) (fun _ => ?_) (fun c9 => absurd e12 c9)
  exact hnext r2.1 _ _ _ _ _ hw hI hl (by omega) (by omega)
set_option maxHeartbeats 4000000 in
set_option maxRecDepth 20000 in
theorem zl_case12 {p : Program} {e : Env} {s : State} {m : MethodId} {below : List Frame} {meth : Method} {c : Code} (l : Launch) {b L : Nat} {xs : Nat → Int32} (hL : L ≤ 3584) (g : zc_G) (P q : Nat) (Inv : zc_H → Prop) (S : CallFix p m c code 4 s #[Value.ref b] (.initialized RL :: zc_T) RL) (hK : zc_K g s) (hX : va_X b L xs s s.heap) (hz : g.2.2.1.1 = s.heap.size) (hH : g.2.2.1.2 = s.heap) (hbl : b < s.heap.size) {i : Nat} {x3 : Int32} (e3 : x3 = nI (7 * i)) (hi7 : 7 * i + 7 ≤ L) {h : zc_H} {H : Heap} {locs : List Loc} {ls : Array Slot} {cells slots : Nat} (hw : zc_W g h H locs) (hI : Inv h) (hl : lv_has ls 4 [(0, va_rf (some b)), (1, va_rf (some P)), (2, va_rf (some q)), (3, .int x3)]) (hcl : cells + 600 ≤ 600000) (hsl : slots + 24000 ≤ 7302250) (hop12 : zl_op12 Inv P q) (hnext : ∀ (h : zc_H) (H : Heap) (locs : List Loc) (ls : Array Slot) (cells1 slots1 : Nat), zc_W g h H locs → Inv h → lv_has ls 4 [(0, va_rf (some b)), (1, va_rf (some P)), (2, va_rf (some q)), (3, .int x3)] → cells1 ≤ cells + 289 → slots1 ≤ slots + 11560 → W p l e room_1 s m #[Value.ref b] below meth c H locs cells1 slots1 (lw_Z below #[Value.ref b] s) (F0 m 1469 ls [])) : W p l e room_1 s m #[Value.ref b] below meth c H locs cells slots (lw_Z below #[Value.ref b] s) (F0 m 629 ls []) := by
  have hx := S.1
  have hb := S.2.1
  refine zl_aload_n hx hb zd_L_law_629 rfl (lv_at hl 1 rfl) ?_
  refine zl_aload_n hx hb zd_L_law_630 rfl (lv_at hl 0 rfl) ?_
  refine lv_iload_n hx hb zd_L_law_631 rfl (lv_at hl 3 rfl) ?_
  refine lv_iconst (v := 1) hx hb zd_L_law_632 (by decide) ?_
  refine lv_iadd hx hb zd_L_law_633 ?_
  refine zl_sld S hw hX hz hH hbl (zl_in e3 hi7 hL 1 (by decide)) zd_L_law_634 ?_
  refine zl_aload_n hx hb zd_L_law_635 rfl (lv_at hl 0 rfl) ?_
  refine lv_iload_n hx hb zd_L_law_636 rfl (lv_at hl 3 rfl) ?_
  refine lv_iconst (v := 2) hx hb zd_L_law_637 (by decide) ?_
  refine lv_iadd hx hb zd_L_law_638 ?_
  refine zl_sld S hw hX hz hH hbl (zl_in e3 hi7 hL 2 (by decide)) zd_L_law_639 ?_
  obtain ⟨r1, r2, e1, e2, e12, hI⟩ := hop12 h (xs (x3 + 1).toNatClampNeg) (xs (x3 + 2).toNatClampNeg) hI
  refine zw_callV (n := 2) (ci := 9) (q := zc_cl[9]) (As := [.int ((xs (x3 + 1).toNatClampNeg)), .int ((xs (x3 + 2).toNatClampNeg))]) (rest := []) S hK hw (zt_X9_rule l g h P (xs (x3 + 1).toNatClampNeg) (xs (x3 + 2).toNatClampNeg) _ e1) zm_679 zm_680 zm_681 zq_X9_rule zm_68 (by decide +kernel) ⟨Nat.le_of_ble_eq_true rfl, Nat.le_of_ble_eq_true rfl⟩ rfl rfl rfl (zi_X9_rule e1) hl.1 rfl (by simp [zv_cat, zv_ci, zv_cj]) zd_L_law_640 ⟨(by show cells + (0 : Nat) ≤ (600000 : Nat); omega), (by show slots + (0 : Nat) ≤ (7302250 : Nat); omega)⟩ (fun H locs hw => ?_)
  replace hw : zc_W g r1.1 H locs := hw
  refine W.widen (k := (cells + 0)) (n := (slots + 0)) (Nat.le_refl _) (Nat.le_refl _) ?_
  refine zl_aload_n hx hb zd_L_law_643 rfl (lv_at hl 2 rfl) ?_
  refine zl_aload_n hx hb zd_L_law_644 rfl (lv_at hl 0 rfl) ?_
  refine lv_iload_n hx hb zd_L_law_645 rfl (lv_at hl 3 rfl) ?_
  refine lv_iconst (v := 1) hx hb zd_L_law_646 (by decide) ?_
  refine lv_iadd hx hb zd_L_law_647 ?_
  refine zl_sld S hw hX hz hH hbl (zl_in e3 hi7 hL 1 (by decide)) zd_L_law_648 ?_
  refine zl_aload_n hx hb zd_L_law_649 rfl (lv_at hl 0 rfl) ?_
  refine lv_iload_n hx hb zd_L_law_650 rfl (lv_at hl 3 rfl) ?_
  refine lv_iconst (v := 2) hx hb zd_L_law_651 (by decide) ?_
  refine lv_iadd hx hb zd_L_law_652 ?_
  refine zl_sld S hw hX hz hH hbl (zl_in e3 hi7 hL 2 (by decide)) zd_L_law_653 ?_
  refine zw_callV (n := 2) (ci := 10) (q := zc_cl[10]) (As := [.int ((xs (x3 + 1).toNatClampNeg)), .int ((xs (x3 + 2).toNatClampNeg))]) (rest := [.int (r1.2)]) S hK hw (zt_X10_rule l g r1.1 q (xs (x3 + 1).toNatClampNeg) (xs (x3 + 2).toNatClampNeg) _ e2) zm_1339 zm_1340 zm_1341 zq_X10_rule zm_79 (by decide +kernel) ⟨Nat.le_of_ble_eq_true rfl, Nat.le_of_ble_eq_true rfl⟩ rfl rfl rfl (zi_X10_rule e2) hl.1 rfl (by simp [zv_cat, zv_ci, zv_cj]) zd_L_law_654 ⟨(by show (cells + 0) + (0 : Nat) ≤ (600000 : Nat); omega), (by show (slots + 0) + (0 : Nat) ≤ (7302250 : Nat); omega)⟩ (fun H locs hw => ?_)
  replace hw : zc_W g r2.1 H locs := hw
  refine W.widen (k := ((cells + 0) + 0)) (n := ((slots + 0) + 0)) (Nat.le_refl _) (Nat.le_refl _) ?_
  refine lv_icmp_eq (tgt := 1469) hx hb zd_L_law_657 (by decide) (fun _ => ?_) (fun c9 => absurd e12 c9)
  exact hnext r2.1 _ _ _ _ _ hw hI hl (by omega) (by omega)
set_option maxHeartbeats 4000000 in
set_option maxRecDepth 20000 in
theorem zl_case13 {p : Program} {e : Env} {s : State} {m : MethodId} {below : List Frame} {meth : Method} {c : Code} (l : Launch) {b L : Nat} {xs : Nat → Int32} (hL : L ≤ 3584) (g : zc_G) (P q : Nat) (Inv : zc_H → Prop) (S : CallFix p m c code 4 s #[Value.ref b] (.initialized RL :: zc_T) RL) (hK : zc_K g s) (hX : va_X b L xs s s.heap) (hz : g.2.2.1.1 = s.heap.size) (hH : g.2.2.1.2 = s.heap) (hbl : b < s.heap.size) {i : Nat} {x3 : Int32} (e3 : x3 = nI (7 * i)) (hi7 : 7 * i + 7 ≤ L) {h : zc_H} {H : Heap} {locs : List Loc} {ls : Array Slot} {cells slots : Nat} (hw : zc_W g h H locs) (hI : Inv h) (hl : lv_has ls 4 [(0, va_rf (some b)), (1, va_rf (some P)), (2, va_rf (some q)), (3, .int x3)]) (hcl : cells + 600 ≤ 600000) (hsl : slots + 24000 ≤ 7302250) (hop13 : zl_op13 Inv P q) (hnext : ∀ (h : zc_H) (H : Heap) (locs : List Loc) (ls : Array Slot) (cells1 slots1 : Nat), zc_W g h H locs → Inv h → lv_has ls 4 [(0, va_rf (some b)), (1, va_rf (some P)), (2, va_rf (some q)), (3, .int x3)] → cells1 ≤ cells + 289 → slots1 ≤ slots + 11560 → W p l e room_1 s m #[Value.ref b] below meth c H locs cells1 slots1 (lw_Z below #[Value.ref b] s) (F0 m 1469 ls [])) : W p l e room_1 s m #[Value.ref b] below meth c H locs cells slots (lw_Z below #[Value.ref b] s) (F0 m 662 ls []) := by
  have hx := S.1
  have hb := S.2.1
  refine zl_aload_n hx hb zd_L_law_662 rfl (lv_at hl 1 rfl) ?_
  refine zl_aload_n hx hb zd_L_law_663 rfl (lv_at hl 0 rfl) ?_
  refine lv_iload_n hx hb zd_L_law_664 rfl (lv_at hl 3 rfl) ?_
  refine lv_iconst (v := 1) hx hb zd_L_law_665 (by decide) ?_
  refine lv_iadd hx hb zd_L_law_666 ?_
  refine zl_sld S hw hX hz hH hbl (zl_in e3 hi7 hL 1 (by decide)) zd_L_law_667 ?_
  refine zl_aload_n hx hb zd_L_law_668 rfl (lv_at hl 0 rfl) ?_
  refine lv_iload_n hx hb zd_L_law_669 rfl (lv_at hl 3 rfl) ?_
  refine lv_iconst (v := 2) hx hb zd_L_law_670 (by decide) ?_
  refine lv_iadd hx hb zd_L_law_671 ?_
  refine zl_sld S hw hX hz hH hbl (zl_in e3 hi7 hL 2 (by decide)) zd_L_law_672 ?_
  refine zl_aload_n hx hb zd_L_law_673 rfl (lv_at hl 0 rfl) ?_
  refine lv_iload_n hx hb zd_L_law_674 rfl (lv_at hl 3 rfl) ?_
  refine lv_iconst (v := 3) hx hb zd_L_law_675 (by decide) ?_
  refine lv_iadd hx hb zd_L_law_676 ?_
  refine zl_sld S hw hX hz hH hbl (zl_in e3 hi7 hL 3 (by decide)) zd_L_law_677 ?_
  obtain ⟨r1, r2, e1, e2, e12, hI⟩ := hop13 h (xs (x3 + 1).toNatClampNeg) (xs (x3 + 2).toNatClampNeg) (xs (x3 + 3).toNatClampNeg) hI
  refine zw_callV (n := 3) (ci := 9) (q := zc_cl[9]) (As := [.int ((xs (x3 + 1).toNatClampNeg)), .int ((xs (x3 + 2).toNatClampNeg)), .int ((xs (x3 + 3).toNatClampNeg))]) (rest := []) S hK hw (zt_X9_place l g h P (xs (x3 + 1).toNatClampNeg) (xs (x3 + 2).toNatClampNeg) (xs (x3 + 3).toNatClampNeg) _ e1) zm_700 zm_701 zm_702 zq_X9_place zm_68 (by decide +kernel) ⟨Nat.le_of_ble_eq_true rfl, Nat.le_of_ble_eq_true rfl⟩ rfl rfl rfl (zi_X9_place e1) hl.1 rfl (by simp [zv_cat, zv_ci, zv_cj]) zd_L_law_678 ⟨(by show cells + (0 : Nat) ≤ (600000 : Nat); omega), (by show slots + (0 : Nat) ≤ (7302250 : Nat); omega)⟩ (fun H locs hw => ?_)
  replace hw : zc_W g r1.1 H locs := hw
  refine W.widen (k := (cells + 0)) (n := (slots + 0)) (Nat.le_refl _) (Nat.le_refl _) ?_
  refine zl_aload_n hx hb zd_L_law_681 rfl (lv_at hl 2 rfl) ?_
  refine zl_aload_n hx hb zd_L_law_682 rfl (lv_at hl 0 rfl) ?_
  refine lv_iload_n hx hb zd_L_law_683 rfl (lv_at hl 3 rfl) ?_
  refine lv_iconst (v := 1) hx hb zd_L_law_684 (by decide) ?_
  refine lv_iadd hx hb zd_L_law_685 ?_
  refine zl_sld S hw hX hz hH hbl (zl_in e3 hi7 hL 1 (by decide)) zd_L_law_686 ?_
  refine zl_aload_n hx hb zd_L_law_687 rfl (lv_at hl 0 rfl) ?_
  refine lv_iload_n hx hb zd_L_law_688 rfl (lv_at hl 3 rfl) ?_
  refine lv_iconst (v := 2) hx hb zd_L_law_689 (by decide) ?_
  refine lv_iadd hx hb zd_L_law_690 ?_
  refine zl_sld S hw hX hz hH hbl (zl_in e3 hi7 hL 2 (by decide)) zd_L_law_691 ?_
  refine zl_aload_n hx hb zd_L_law_692 rfl (lv_at hl 0 rfl) ?_
  refine lv_iload_n hx hb zd_L_law_693 rfl (lv_at hl 3 rfl) ?_
  refine lv_iconst (v := 3) hx hb zd_L_law_694 (by decide) ?_
  refine lv_iadd hx hb zd_L_law_695 ?_
  refine zl_sld S hw hX hz hH hbl (zl_in e3 hi7 hL 3 (by decide)) zd_L_law_696 ?_
  refine zw_callV (n := 3) (ci := 10) (q := zc_cl[10]) (As := [.int ((xs (x3 + 1).toNatClampNeg)), .int ((xs (x3 + 2).toNatClampNeg)), .int ((xs (x3 + 3).toNatClampNeg))]) (rest := [.int (r1.2)]) S hK hw (zt_X10_place l g r1.1 q (xs (x3 + 1).toNatClampNeg) (xs (x3 + 2).toNatClampNeg) (xs (x3 + 3).toNatClampNeg) _ e2) zm_1343 zm_1344 zm_1345 zq_X10_place zm_79 (by decide +kernel) ⟨Nat.le_of_ble_eq_true rfl, Nat.le_of_ble_eq_true rfl⟩ rfl rfl rfl (zi_X10_place e2) hl.1 rfl (by simp [zv_cat, zv_ci, zv_cj]) zd_L_law_697 ⟨(by show (cells + 0) + (0 : Nat) ≤ (600000 : Nat); omega), (by show (slots + 0) + (0 : Nat) ≤ (7302250 : Nat); omega)⟩ (fun H locs hw => ?_)
  replace hw : zc_W g r2.1 H locs := hw
  refine W.widen (k := ((cells + 0) + 0)) (n := ((slots + 0) + 0)) (Nat.le_refl _) (Nat.le_refl _) ?_
  refine lv_icmp_eq (tgt := 1469) hx hb zd_L_law_700 (by decide) (fun _ => ?_) (fun c9 => absurd e12 c9)
  exact hnext r2.1 _ _ _ _ _ hw hI hl (by omega) (by omega)
set_option maxHeartbeats 4000000 in
set_option maxRecDepth 20000 in
theorem zl_case14 {p : Program} {e : Env} {s : State} {m : MethodId} {below : List Frame} {meth : Method} {c : Code} (l : Launch) {b L : Nat} {xs : Nat → Int32} (hL : L ≤ 3584) (g : zc_G) (P q : Nat) (Inv : zc_H → Prop) (S : CallFix p m c code 4 s #[Value.ref b] (.initialized RL :: zc_T) RL) (hK : zc_K g s) (hX : va_X b L xs s s.heap) (hz : g.2.2.1.1 = s.heap.size) (hH : g.2.2.1.2 = s.heap) (hbl : b < s.heap.size) {i : Nat} {x3 : Int32} (e3 : x3 = nI (7 * i)) (hi7 : 7 * i + 7 ≤ L) {h : zc_H} {H : Heap} {locs : List Loc} {ls : Array Slot} {cells slots : Nat} (hw : zc_W g h H locs) (hI : Inv h) (hl : lv_has ls 4 [(0, va_rf (some b)), (1, va_rf (some P)), (2, va_rf (some q)), (3, .int x3)]) (hcl : cells + 600 ≤ 600000) (hsl : slots + 24000 ≤ 7302250) (hop14 : zl_op14 Inv P q) (hnext : ∀ (h : zc_H) (H : Heap) (locs : List Loc) (ls : Array Slot) (cells1 slots1 : Nat), zc_W g h H locs → Inv h → lv_has ls 4 [(0, va_rf (some b)), (1, va_rf (some P)), (2, va_rf (some q)), (3, .int x3)] → cells1 ≤ cells + 289 → slots1 ≤ slots + 11560 → W p l e room_1 s m #[Value.ref b] below meth c H locs cells1 slots1 (lw_Z below #[Value.ref b] s) (F0 m 1469 ls [])) : W p l e room_1 s m #[Value.ref b] below meth c H locs cells slots (lw_Z below #[Value.ref b] s) (F0 m 705 ls []) := by
  have hx := S.1
  have hb := S.2.1
  refine zl_aload_n hx hb zd_L_law_705 rfl (lv_at hl 1 rfl) ?_
  refine zl_aload_n hx hb zd_L_law_706 rfl (lv_at hl 0 rfl) ?_
  refine lv_iload_n hx hb zd_L_law_707 rfl (lv_at hl 3 rfl) ?_
  refine lv_iconst (v := 1) hx hb zd_L_law_708 (by decide) ?_
  refine lv_iadd hx hb zd_L_law_709 ?_
  refine zl_sld S hw hX hz hH hbl (zl_in e3 hi7 hL 1 (by decide)) zd_L_law_710 ?_
  refine zl_aload_n hx hb zd_L_law_711 rfl (lv_at hl 0 rfl) ?_
  refine lv_iload_n hx hb zd_L_law_712 rfl (lv_at hl 3 rfl) ?_
  refine lv_iconst (v := 2) hx hb zd_L_law_713 (by decide) ?_
  refine lv_iadd hx hb zd_L_law_714 ?_
  refine zl_sld S hw hX hz hH hbl (zl_in e3 hi7 hL 2 (by decide)) zd_L_law_715 ?_
  refine zl_aload_n hx hb zd_L_law_716 rfl (lv_at hl 0 rfl) ?_
  refine lv_iload_n hx hb zd_L_law_717 rfl (lv_at hl 3 rfl) ?_
  refine lv_iconst (v := 3) hx hb zd_L_law_718 (by decide) ?_
  refine lv_iadd hx hb zd_L_law_719 ?_
  refine zl_sld S hw hX hz hH hbl (zl_in e3 hi7 hL 3 (by decide)) zd_L_law_720 ?_
  obtain ⟨r1, r2, e1, e2, e12, hI⟩ := hop14 h (xs (x3 + 1).toNatClampNeg) (xs (x3 + 2).toNatClampNeg) (xs (x3 + 3).toNatClampNeg) hI
  refine zw_callV (n := 3) (ci := 9) (q := zc_cl[9]) (As := [.int ((xs (x3 + 1).toNatClampNeg)), .int ((xs (x3 + 2).toNatClampNeg)), .int ((xs (x3 + 3).toNatClampNeg))]) (rest := []) S hK hw (zt_X9_matched l g h P (xs (x3 + 1).toNatClampNeg) (xs (x3 + 2).toNatClampNeg) (xs (x3 + 3).toNatClampNeg) _ e1) zm_706 zm_707 zm_708 zq_X9_matched zm_68 (by decide +kernel) ⟨Nat.le_of_ble_eq_true rfl, Nat.le_of_ble_eq_true rfl⟩ rfl rfl rfl (zi_X9_matched e1) hl.1 rfl (by simp [zv_cat, zv_ci, zv_cj]) zd_L_law_721 ⟨(by show cells + (0 : Nat) ≤ (600000 : Nat); omega), (by show slots + (0 : Nat) ≤ (7302250 : Nat); omega)⟩ (fun H locs hw => ?_)
  replace hw : zc_W g r1.1 H locs := hw
  refine W.widen (k := (cells + 0)) (n := (slots + 0)) (Nat.le_refl _) (Nat.le_refl _) ?_
  refine zl_aload_n hx hb zd_L_law_724 rfl (lv_at hl 2 rfl) ?_
  refine zl_aload_n hx hb zd_L_law_725 rfl (lv_at hl 0 rfl) ?_
  refine lv_iload_n hx hb zd_L_law_726 rfl (lv_at hl 3 rfl) ?_
  refine lv_iconst (v := 1) hx hb zd_L_law_727 (by decide) ?_
  refine lv_iadd hx hb zd_L_law_728 ?_
  refine zl_sld S hw hX hz hH hbl (zl_in e3 hi7 hL 1 (by decide)) zd_L_law_729 ?_
  refine zl_aload_n hx hb zd_L_law_730 rfl (lv_at hl 0 rfl) ?_
  refine lv_iload_n hx hb zd_L_law_731 rfl (lv_at hl 3 rfl) ?_
  refine lv_iconst (v := 2) hx hb zd_L_law_732 (by decide) ?_
  refine lv_iadd hx hb zd_L_law_733 ?_
  refine zl_sld S hw hX hz hH hbl (zl_in e3 hi7 hL 2 (by decide)) zd_L_law_734 ?_
  refine zl_aload_n hx hb zd_L_law_735 rfl (lv_at hl 0 rfl) ?_
  refine lv_iload_n hx hb zd_L_law_736 rfl (lv_at hl 3 rfl) ?_
  refine lv_iconst (v := 3) hx hb zd_L_law_737 (by decide) ?_
  refine lv_iadd hx hb zd_L_law_738 ?_
  refine zl_sld S hw hX hz hH hbl (zl_in e3 hi7 hL 3 (by decide)) zd_L_law_739 ?_
  refine zw_callV (n := 3) (ci := 10) (q := zc_cl[10]) (As := [.int ((xs (x3 + 1).toNatClampNeg)), .int ((xs (x3 + 2).toNatClampNeg)), .int ((xs (x3 + 3).toNatClampNeg))]) (rest := [.int (r1.2)]) S hK hw (zt_X10_matched l g r1.1 q (xs (x3 + 1).toNatClampNeg) (xs (x3 + 2).toNatClampNeg) (xs (x3 + 3).toNatClampNeg) _ e2) zm_1347 zm_1348 zm_1349 zq_X10_matched zm_79 (by decide +kernel) ⟨Nat.le_of_ble_eq_true rfl, Nat.le_of_ble_eq_true rfl⟩ rfl rfl rfl (zi_X10_matched e2) hl.1 rfl (by simp [zv_cat, zv_ci, zv_cj]) zd_L_law_740 ⟨(by show (cells + 0) + (0 : Nat) ≤ (600000 : Nat); omega), (by show (slots + 0) + (0 : Nat) ≤ (7302250 : Nat); omega)⟩ (fun H locs hw => ?_)
  replace hw : zc_W g r2.1 H locs := hw
  refine W.widen (k := ((cells + 0) + 0)) (n := ((slots + 0) + 0)) (Nat.le_refl _) (Nat.le_refl _) ?_
  refine lv_icmp_eq (tgt := 1469) hx hb zd_L_law_743 (by decide) (fun _ => ?_) (fun c9 => absurd e12 c9)
  exact hnext r2.1 _ _ _ _ _ hw hI hl (by omega) (by omega)
set_option maxHeartbeats 4000000 in
set_option maxRecDepth 20000 in
theorem zl_case15 {p : Program} {e : Env} {s : State} {m : MethodId} {below : List Frame} {meth : Method} {c : Code} (l : Launch) {b L : Nat} {xs : Nat → Int32} (hL : L ≤ 3584) (g : zc_G) (P q : Nat) (Inv : zc_H → Prop) (S : CallFix p m c code 4 s #[Value.ref b] (.initialized RL :: zc_T) RL) (hK : zc_K g s) (hX : va_X b L xs s s.heap) (hz : g.2.2.1.1 = s.heap.size) (hH : g.2.2.1.2 = s.heap) (hbl : b < s.heap.size) {i : Nat} {x3 : Int32} (e3 : x3 = nI (7 * i)) (hi7 : 7 * i + 7 ≤ L) {h : zc_H} {H : Heap} {locs : List Loc} {ls : Array Slot} {cells slots : Nat} (hw : zc_W g h H locs) (hI : Inv h) (hl : lv_has ls 4 [(0, va_rf (some b)), (1, va_rf (some P)), (2, va_rf (some q)), (3, .int x3)]) (hcl : cells + 600 ≤ 600000) (hsl : slots + 24000 ≤ 7302250) (hop15 : zl_op15 Inv P q) (hnext : ∀ (h : zc_H) (H : Heap) (locs : List Loc) (ls : Array Slot) (cells1 slots1 : Nat), zc_W g h H locs → Inv h → lv_has ls 4 [(0, va_rf (some b)), (1, va_rf (some P)), (2, va_rf (some q)), (3, .int x3)] → cells1 ≤ cells + 289 → slots1 ≤ slots + 11560 → W p l e room_1 s m #[Value.ref b] below meth c H locs cells1 slots1 (lw_Z below #[Value.ref b] s) (F0 m 1469 ls [])) : W p l e room_1 s m #[Value.ref b] below meth c H locs cells slots (lw_Z below #[Value.ref b] s) (F0 m 748 ls []) := by
  have hx := S.1
  have hb := S.2.1
  refine zl_aload_n hx hb zd_L_law_748 rfl (lv_at hl 1 rfl) ?_
  refine zl_aload_n hx hb zd_L_law_749 rfl (lv_at hl 0 rfl) ?_
  refine lv_iload_n hx hb zd_L_law_750 rfl (lv_at hl 3 rfl) ?_
  refine lv_iconst (v := 1) hx hb zd_L_law_751 (by decide) ?_
  refine lv_iadd hx hb zd_L_law_752 ?_
  refine zl_sld S hw hX hz hH hbl (zl_in e3 hi7 hL 1 (by decide)) zd_L_law_753 ?_
  refine zl_aload_n hx hb zd_L_law_754 rfl (lv_at hl 0 rfl) ?_
  refine lv_iload_n hx hb zd_L_law_755 rfl (lv_at hl 3 rfl) ?_
  refine lv_iconst (v := 2) hx hb zd_L_law_756 (by decide) ?_
  refine lv_iadd hx hb zd_L_law_757 ?_
  refine zl_sld S hw hX hz hH hbl (zl_in e3 hi7 hL 2 (by decide)) zd_L_law_758 ?_
  refine zl_aload_n hx hb zd_L_law_759 rfl (lv_at hl 0 rfl) ?_
  refine lv_iload_n hx hb zd_L_law_760 rfl (lv_at hl 3 rfl) ?_
  refine lv_iconst (v := 3) hx hb zd_L_law_761 (by decide) ?_
  refine lv_iadd hx hb zd_L_law_762 ?_
  refine zl_sld S hw hX hz hH hbl (zl_in e3 hi7 hL 3 (by decide)) zd_L_law_763 ?_
  obtain ⟨r1, r2, e1, e2, e12, hI⟩ := hop15 h (xs (x3 + 1).toNatClampNeg) (xs (x3 + 2).toNatClampNeg) (xs (x3 + 3).toNatClampNeg) hI
  refine zw_callV (n := 3) (ci := 9) (q := zc_cl[9]) (As := [.int ((xs (x3 + 1).toNatClampNeg)), .int ((xs (x3 + 2).toNatClampNeg)), .int ((xs (x3 + 3).toNatClampNeg))]) (rest := []) S hK hw (zt_X9_through l g h P (xs (x3 + 1).toNatClampNeg) (xs (x3 + 2).toNatClampNeg) (xs (x3 + 3).toNatClampNeg) _ e1) zm_710 zm_711 zm_712 zq_X9_through zm_68 (by decide +kernel) ⟨Nat.le_of_ble_eq_true rfl, Nat.le_of_ble_eq_true rfl⟩ rfl rfl rfl (zi_X9_through e1) hl.1 rfl (by simp [zv_cat, zv_ci, zv_cj]) zd_L_law_764 ⟨(by show cells + (17 : Nat) ≤ (600000 : Nat); omega), (by show slots + (680 : Nat) ≤ (7302250 : Nat); omega)⟩ (fun H locs hw => ?_)
  replace hw : zc_W g r1.1 H locs := hw
  refine W.widen (k := (cells + 17)) (n := (slots + 680)) (Nat.le_refl _) (Nat.le_refl _) ?_
  refine zl_aload_n hx hb zd_L_law_767 rfl (lv_at hl 2 rfl) ?_
  refine zl_aload_n hx hb zd_L_law_768 rfl (lv_at hl 0 rfl) ?_
  refine lv_iload_n hx hb zd_L_law_769 rfl (lv_at hl 3 rfl) ?_
  refine lv_iconst (v := 1) hx hb zd_L_law_770 (by decide) ?_
  refine lv_iadd hx hb zd_L_law_771 ?_
  refine zl_sld S hw hX hz hH hbl (zl_in e3 hi7 hL 1 (by decide)) zd_L_law_772 ?_
  refine zl_aload_n hx hb zd_L_law_773 rfl (lv_at hl 0 rfl) ?_
  refine lv_iload_n hx hb zd_L_law_774 rfl (lv_at hl 3 rfl) ?_
  refine lv_iconst (v := 2) hx hb zd_L_law_775 (by decide) ?_
  refine lv_iadd hx hb zd_L_law_776 ?_
  refine zl_sld S hw hX hz hH hbl (zl_in e3 hi7 hL 2 (by decide)) zd_L_law_777 ?_
  refine zl_aload_n hx hb zd_L_law_778 rfl (lv_at hl 0 rfl) ?_
  refine lv_iload_n hx hb zd_L_law_779 rfl (lv_at hl 3 rfl) ?_
  refine lv_iconst (v := 3) hx hb zd_L_law_780 (by decide) ?_
  refine lv_iadd hx hb zd_L_law_781 ?_
  refine zl_sld S hw hX hz hH hbl (zl_in e3 hi7 hL 3 (by decide)) zd_L_law_782 ?_
  refine zw_callV (n := 3) (ci := 10) (q := zc_cl[10]) (As := [.int ((xs (x3 + 1).toNatClampNeg)), .int ((xs (x3 + 2).toNatClampNeg)), .int ((xs (x3 + 3).toNatClampNeg))]) (rest := [.int (r1.2)]) S hK hw (zt_X10_through l g r1.1 q (xs (x3 + 1).toNatClampNeg) (xs (x3 + 2).toNatClampNeg) (xs (x3 + 3).toNatClampNeg) _ e2) zm_1351 zm_1352 zm_1353 zq_X10_through zm_79 (by decide +kernel) ⟨Nat.le_of_ble_eq_true rfl, Nat.le_of_ble_eq_true rfl⟩ rfl rfl rfl (zi_X10_through e2) hl.1 rfl (by simp [zv_cat, zv_ci, zv_cj]) zd_L_law_783 ⟨(by show (cells + 17) + (0 : Nat) ≤ (600000 : Nat); omega), (by show (slots + 680) + (0 : Nat) ≤ (7302250 : Nat); omega)⟩ (fun H locs hw => ?_)
  replace hw : zc_W g r2.1 H locs := hw
  refine W.widen (k := ((cells + 17) + 0)) (n := ((slots + 680) + 0)) (Nat.le_refl _) (Nat.le_refl _) ?_
  refine lv_icmp_eq (tgt := 1469) hx hb zd_L_law_786 (by decide) (fun _ => ?_) (fun c9 => absurd e12 c9)
  exact hnext r2.1 _ _ _ _ _ hw hI hl (by omega) (by omega)
set_option maxHeartbeats 4000000 in
set_option maxRecDepth 20000 in
theorem zl_case16 {p : Program} {e : Env} {s : State} {m : MethodId} {below : List Frame} {meth : Method} {c : Code} (l : Launch) {b L : Nat} {xs : Nat → Int32} (hL : L ≤ 3584) (g : zc_G) (P q : Nat) (Inv : zc_H → Prop) (S : CallFix p m c code 4 s #[Value.ref b] (.initialized RL :: zc_T) RL) (hK : zc_K g s) (hX : va_X b L xs s s.heap) (hz : g.2.2.1.1 = s.heap.size) (hH : g.2.2.1.2 = s.heap) (hbl : b < s.heap.size) {i : Nat} {x3 : Int32} (e3 : x3 = nI (7 * i)) (hi7 : 7 * i + 7 ≤ L) {h : zc_H} {H : Heap} {locs : List Loc} {ls : Array Slot} {cells slots : Nat} (hw : zc_W g h H locs) (hI : Inv h) (hl : lv_has ls 4 [(0, va_rf (some b)), (1, va_rf (some P)), (2, va_rf (some q)), (3, .int x3)]) (hcl : cells + 600 ≤ 600000) (hsl : slots + 24000 ≤ 7302250) (hop16 : zl_op16 Inv P q) (hnext : ∀ (h : zc_H) (H : Heap) (locs : List Loc) (ls : Array Slot) (cells1 slots1 : Nat), zc_W g h H locs → Inv h → lv_has ls 4 [(0, va_rf (some b)), (1, va_rf (some P)), (2, va_rf (some q)), (3, .int x3)] → cells1 ≤ cells + 289 → slots1 ≤ slots + 11560 → W p l e room_1 s m #[Value.ref b] below meth c H locs cells1 slots1 (lw_Z below #[Value.ref b] s) (F0 m 1469 ls [])) : W p l e room_1 s m #[Value.ref b] below meth c H locs cells slots (lw_Z below #[Value.ref b] s) (F0 m 791 ls []) := by
  have hx := S.1
  have hb := S.2.1
  refine zl_aload_n hx hb zd_L_law_791 rfl (lv_at hl 1 rfl) ?_
  refine zl_aload_n hx hb zd_L_law_792 rfl (lv_at hl 0 rfl) ?_
  refine lv_iload_n hx hb zd_L_law_793 rfl (lv_at hl 3 rfl) ?_
  refine lv_iconst (v := 1) hx hb zd_L_law_794 (by decide) ?_
  refine lv_iadd hx hb zd_L_law_795 ?_
  refine zl_sld S hw hX hz hH hbl (zl_in e3 hi7 hL 1 (by decide)) zd_L_law_796 ?_
  refine zl_aload_n hx hb zd_L_law_797 rfl (lv_at hl 0 rfl) ?_
  refine lv_iload_n hx hb zd_L_law_798 rfl (lv_at hl 3 rfl) ?_
  refine lv_iconst (v := 2) hx hb zd_L_law_799 (by decide) ?_
  refine lv_iadd hx hb zd_L_law_800 ?_
  refine zl_sld S hw hX hz hH hbl (zl_in e3 hi7 hL 2 (by decide)) zd_L_law_801 ?_
  refine zl_aload_n hx hb zd_L_law_802 rfl (lv_at hl 0 rfl) ?_
  refine lv_iload_n hx hb zd_L_law_803 rfl (lv_at hl 3 rfl) ?_
  refine lv_iconst (v := 3) hx hb zd_L_law_804 (by decide) ?_
  refine lv_iadd hx hb zd_L_law_805 ?_
  refine zl_sld S hw hX hz hH hbl (zl_in e3 hi7 hL 3 (by decide)) zd_L_law_806 ?_
  obtain ⟨r1, r2, e1, e2, e12, hI⟩ := hop16 h (xs (x3 + 1).toNatClampNeg) (xs (x3 + 2).toNatClampNeg) (xs (x3 + 3).toNatClampNeg) hI
  refine zw_callV (n := 3) (ci := 9) (q := zc_cl[9]) (As := [.int ((xs (x3 + 1).toNatClampNeg)), .int ((xs (x3 + 2).toNatClampNeg)), .int ((xs (x3 + 3).toNatClampNeg))]) (rest := []) S hK hw (zt_X9_origin l g h P (xs (x3 + 1).toNatClampNeg) (xs (x3 + 2).toNatClampNeg) (xs (x3 + 3).toNatClampNeg) _ e1) zm_734 zm_735 zm_736 zq_X9_origin zm_68 (by decide +kernel) ⟨Nat.le_of_ble_eq_true rfl, Nat.le_of_ble_eq_true rfl⟩ rfl rfl rfl (zi_X9_origin e1) hl.1 rfl (by simp [zv_cat, zv_ci, zv_cj]) zd_L_law_807 ⟨(by show cells + (0 : Nat) ≤ (600000 : Nat); omega), (by show slots + (0 : Nat) ≤ (7302250 : Nat); omega)⟩ (fun H locs hw => ?_)
  replace hw : zc_W g r1.1 H locs := hw
  refine W.widen (k := (cells + 0)) (n := (slots + 0)) (Nat.le_refl _) (Nat.le_refl _) ?_
  refine zl_aload_n hx hb zd_L_law_810 rfl (lv_at hl 2 rfl) ?_
  refine zl_aload_n hx hb zd_L_law_811 rfl (lv_at hl 0 rfl) ?_
  refine lv_iload_n hx hb zd_L_law_812 rfl (lv_at hl 3 rfl) ?_
  refine lv_iconst (v := 1) hx hb zd_L_law_813 (by decide) ?_
  refine lv_iadd hx hb zd_L_law_814 ?_
  refine zl_sld S hw hX hz hH hbl (zl_in e3 hi7 hL 1 (by decide)) zd_L_law_815 ?_
  refine zl_aload_n hx hb zd_L_law_816 rfl (lv_at hl 0 rfl) ?_
  refine lv_iload_n hx hb zd_L_law_817 rfl (lv_at hl 3 rfl) ?_
  refine lv_iconst (v := 2) hx hb zd_L_law_818 (by decide) ?_
  refine lv_iadd hx hb zd_L_law_819 ?_
  refine zl_sld S hw hX hz hH hbl (zl_in e3 hi7 hL 2 (by decide)) zd_L_law_820 ?_
  refine zl_aload_n hx hb zd_L_law_821 rfl (lv_at hl 0 rfl) ?_
  refine lv_iload_n hx hb zd_L_law_822 rfl (lv_at hl 3 rfl) ?_
  refine lv_iconst (v := 3) hx hb zd_L_law_823 (by decide) ?_
  refine lv_iadd hx hb zd_L_law_824 ?_
  refine zl_sld S hw hX hz hH hbl (zl_in e3 hi7 hL 3 (by decide)) zd_L_law_825 ?_
  refine zw_callV (n := 3) (ci := 10) (q := zc_cl[10]) (As := [.int ((xs (x3 + 1).toNatClampNeg)), .int ((xs (x3 + 2).toNatClampNeg)), .int ((xs (x3 + 3).toNatClampNeg))]) (rest := [.int (r1.2)]) S hK hw (zt_X10_origin l g r1.1 q (xs (x3 + 1).toNatClampNeg) (xs (x3 + 2).toNatClampNeg) (xs (x3 + 3).toNatClampNeg) _ e2) zm_1359 zm_1360 zm_1361 zq_X10_origin zm_79 (by decide +kernel) ⟨Nat.le_of_ble_eq_true rfl, Nat.le_of_ble_eq_true rfl⟩ rfl rfl rfl (zi_X10_origin e2) hl.1 rfl (by simp [zv_cat, zv_ci, zv_cj]) zd_L_law_826 ⟨(by show (cells + 0) + (0 : Nat) ≤ (600000 : Nat); omega), (by show (slots + 0) + (0 : Nat) ≤ (7302250 : Nat); omega)⟩ (fun H locs hw => ?_)
  replace hw : zc_W g r2.1 H locs := hw
  refine W.widen (k := ((cells + 0) + 0)) (n := ((slots + 0) + 0)) (Nat.le_refl _) (Nat.le_refl _) ?_
  refine lv_icmp_eq (tgt := 1469) hx hb zd_L_law_829 (by decide) (fun _ => ?_) (fun c9 => absurd e12 c9)
  exact hnext r2.1 _ _ _ _ _ hw hI hl (by omega) (by omega)
set_option maxHeartbeats 4000000 in
set_option maxRecDepth 20000 in
theorem zl_case17 {p : Program} {e : Env} {s : State} {m : MethodId} {below : List Frame} {meth : Method} {c : Code} (l : Launch) {b L : Nat} {xs : Nat → Int32} (hL : L ≤ 3584) (g : zc_G) (P q : Nat) (Inv : zc_H → Prop) (S : CallFix p m c code 4 s #[Value.ref b] (.initialized RL :: zc_T) RL) (hK : zc_K g s) (hX : va_X b L xs s s.heap) (hz : g.2.2.1.1 = s.heap.size) (hH : g.2.2.1.2 = s.heap) (hbl : b < s.heap.size) {i : Nat} {x3 : Int32} (e3 : x3 = nI (7 * i)) (hi7 : 7 * i + 7 ≤ L) {h : zc_H} {H : Heap} {locs : List Loc} {ls : Array Slot} {cells slots : Nat} (hw : zc_W g h H locs) (hI : Inv h) (hl : lv_has ls 4 [(0, va_rf (some b)), (1, va_rf (some P)), (2, va_rf (some q)), (3, .int x3)]) (hcl : cells + 600 ≤ 600000) (hsl : slots + 24000 ≤ 7302250) (hop17 : zl_op17 Inv P q) (hnext : ∀ (h : zc_H) (H : Heap) (locs : List Loc) (ls : Array Slot) (cells1 slots1 : Nat), zc_W g h H locs → Inv h → lv_has ls 4 [(0, va_rf (some b)), (1, va_rf (some P)), (2, va_rf (some q)), (3, .int x3)] → cells1 ≤ cells + 289 → slots1 ≤ slots + 11560 → W p l e room_1 s m #[Value.ref b] below meth c H locs cells1 slots1 (lw_Z below #[Value.ref b] s) (F0 m 1469 ls [])) : W p l e room_1 s m #[Value.ref b] below meth c H locs cells slots (lw_Z below #[Value.ref b] s) (F0 m 834 ls []) := by
  have hx := S.1
  have hb := S.2.1
  refine zl_aload_n hx hb zd_L_law_834 rfl (lv_at hl 1 rfl) ?_
  refine zl_aload_n hx hb zd_L_law_835 rfl (lv_at hl 0 rfl) ?_
  refine lv_iload_n hx hb zd_L_law_836 rfl (lv_at hl 3 rfl) ?_
  refine lv_iconst (v := 1) hx hb zd_L_law_837 (by decide) ?_
  refine lv_iadd hx hb zd_L_law_838 ?_
  refine zl_sld S hw hX hz hH hbl (zl_in e3 hi7 hL 1 (by decide)) zd_L_law_839 ?_
  refine zl_aload_n hx hb zd_L_law_840 rfl (lv_at hl 0 rfl) ?_
  refine lv_iload_n hx hb zd_L_law_841 rfl (lv_at hl 3 rfl) ?_
  refine lv_iconst (v := 2) hx hb zd_L_law_842 (by decide) ?_
  refine lv_iadd hx hb zd_L_law_843 ?_
  refine zl_sld S hw hX hz hH hbl (zl_in e3 hi7 hL 2 (by decide)) zd_L_law_844 ?_
  refine zl_aload_n hx hb zd_L_law_845 rfl (lv_at hl 0 rfl) ?_
  refine lv_iload_n hx hb zd_L_law_846 rfl (lv_at hl 3 rfl) ?_
  refine lv_iconst (v := 3) hx hb zd_L_law_847 (by decide) ?_
  refine lv_iadd hx hb zd_L_law_848 ?_
  refine zl_sld S hw hX hz hH hbl (zl_in e3 hi7 hL 3 (by decide)) zd_L_law_849 ?_
  refine zl_aload_n hx hb zd_L_law_850 rfl (lv_at hl 0 rfl) ?_
  refine lv_iload_n hx hb zd_L_law_851 rfl (lv_at hl 3 rfl) ?_
  refine lv_iconst (v := 4) hx hb zd_L_law_852 (by decide) ?_
  refine lv_iadd hx hb zd_L_law_853 ?_
  refine zl_sld S hw hX hz hH hbl (zl_in e3 hi7 hL 4 (by decide)) zd_L_law_854 ?_
  refine zl_aload_n hx hb zd_L_law_855 rfl (lv_at hl 0 rfl) ?_
  refine lv_iload_n hx hb zd_L_law_856 rfl (lv_at hl 3 rfl) ?_
  refine lv_iconst (v := 5) hx hb zd_L_law_857 (by decide) ?_
  refine lv_iadd hx hb zd_L_law_858 ?_
  refine zl_sld S hw hX hz hH hbl (zl_in e3 hi7 hL 5 (by decide)) zd_L_law_859 ?_
  refine zl_aload_n hx hb zd_L_law_860 rfl (lv_at hl 0 rfl) ?_
  refine lv_iload_n hx hb zd_L_law_861 rfl (lv_at hl 3 rfl) ?_
  refine lv_bipush (v := 6) hx hb zd_L_law_862 (by decide) ?_
  refine lv_iadd hx hb zd_L_law_864 ?_
  refine zl_sld S hw hX hz hH hbl (zl_in e3 hi7 hL 6 (by decide)) zd_L_law_865 ?_
  obtain ⟨r1, r2, e1, e2, e12, hI⟩ := hop17 h (xs (x3 + 1).toNatClampNeg) (xs (x3 + 2).toNatClampNeg) (xs (x3 + 3).toNatClampNeg) (xs (x3 + 4).toNatClampNeg) (xs (x3 + 5).toNatClampNeg) (xs (x3 + 6).toNatClampNeg) hI
  refine zw_callV (n := 6) (ci := 9) (q := zc_cl[9]) (As := [.int ((xs (x3 + 1).toNatClampNeg)), .int ((xs (x3 + 2).toNatClampNeg)), .int ((xs (x3 + 3).toNatClampNeg)), .int ((xs (x3 + 4).toNatClampNeg)), .int ((xs (x3 + 5).toNatClampNeg)), .int ((xs (x3 + 6).toNatClampNeg))]) (rest := []) S hK hw (zt_X9_remark l g h P (xs (x3 + 1).toNatClampNeg) (xs (x3 + 2).toNatClampNeg) (xs (x3 + 3).toNatClampNeg) (xs (x3 + 4).toNatClampNeg) (xs (x3 + 5).toNatClampNeg) (xs (x3 + 6).toNatClampNeg) _ e1) zm_742 zm_743 zm_744 zq_X9_remark zm_68 (by decide +kernel) ⟨Nat.le_of_ble_eq_true rfl, Nat.le_of_ble_eq_true rfl⟩ rfl rfl rfl (zi_X9_remark e1) hl.1 rfl (by simp [zv_cat, zv_ci, zv_cj]) zd_L_law_866 ⟨(by show cells + (2 : Nat) ≤ (600000 : Nat); omega), (by show slots + (46 : Nat) ≤ (7302250 : Nat); omega)⟩ (fun H locs hw => ?_)
  replace hw : zc_W g r1.1 H locs := hw
  refine W.widen (k := (cells + 2)) (n := (slots + 46)) (Nat.le_refl _) (Nat.le_refl _) ?_
  refine zl_aload_n hx hb zd_L_law_869 rfl (lv_at hl 2 rfl) ?_
  refine zl_aload_n hx hb zd_L_law_870 rfl (lv_at hl 0 rfl) ?_
  refine lv_iload_n hx hb zd_L_law_871 rfl (lv_at hl 3 rfl) ?_
  refine lv_iconst (v := 1) hx hb zd_L_law_872 (by decide) ?_
  refine lv_iadd hx hb zd_L_law_873 ?_
  refine zl_sld S hw hX hz hH hbl (zl_in e3 hi7 hL 1 (by decide)) zd_L_law_874 ?_
  refine zl_aload_n hx hb zd_L_law_875 rfl (lv_at hl 0 rfl) ?_
  refine lv_iload_n hx hb zd_L_law_876 rfl (lv_at hl 3 rfl) ?_
  refine lv_iconst (v := 2) hx hb zd_L_law_877 (by decide) ?_
  refine lv_iadd hx hb zd_L_law_878 ?_
  refine zl_sld S hw hX hz hH hbl (zl_in e3 hi7 hL 2 (by decide)) zd_L_law_879 ?_
  refine zl_aload_n hx hb zd_L_law_880 rfl (lv_at hl 0 rfl) ?_
  refine lv_iload_n hx hb zd_L_law_881 rfl (lv_at hl 3 rfl) ?_
  refine lv_iconst (v := 3) hx hb zd_L_law_882 (by decide) ?_
  refine lv_iadd hx hb zd_L_law_883 ?_
  refine zl_sld S hw hX hz hH hbl (zl_in e3 hi7 hL 3 (by decide)) zd_L_law_884 ?_
  refine zl_aload_n hx hb zd_L_law_885 rfl (lv_at hl 0 rfl) ?_
  refine lv_iload_n hx hb zd_L_law_886 rfl (lv_at hl 3 rfl) ?_
  refine lv_iconst (v := 4) hx hb zd_L_law_887 (by decide) ?_
  refine lv_iadd hx hb zd_L_law_888 ?_
  refine zl_sld S hw hX hz hH hbl (zl_in e3 hi7 hL 4 (by decide)) zd_L_law_889 ?_
  refine zl_aload_n hx hb zd_L_law_890 rfl (lv_at hl 0 rfl) ?_
  refine lv_iload_n hx hb zd_L_law_891 rfl (lv_at hl 3 rfl) ?_
  refine lv_iconst (v := 5) hx hb zd_L_law_892 (by decide) ?_
  refine lv_iadd hx hb zd_L_law_893 ?_
  refine zl_sld S hw hX hz hH hbl (zl_in e3 hi7 hL 5 (by decide)) zd_L_law_894 ?_
  refine zl_aload_n hx hb zd_L_law_895 rfl (lv_at hl 0 rfl) ?_
  refine lv_iload_n hx hb zd_L_law_896 rfl (lv_at hl 3 rfl) ?_
  refine lv_bipush (v := 6) hx hb zd_L_law_897 (by decide) ?_
  refine lv_iadd hx hb zd_L_law_899 ?_
  refine zl_sld S hw hX hz hH hbl (zl_in e3 hi7 hL 6 (by decide)) zd_L_law_900 ?_
  refine zw_callV (n := 6) (ci := 10) (q := zc_cl[10]) (As := [.int ((xs (x3 + 1).toNatClampNeg)), .int ((xs (x3 + 2).toNatClampNeg)), .int ((xs (x3 + 3).toNatClampNeg)), .int ((xs (x3 + 4).toNatClampNeg)), .int ((xs (x3 + 5).toNatClampNeg)), .int ((xs (x3 + 6).toNatClampNeg))]) (rest := [.int (r1.2)]) S hK hw (zt_X10_remark l g r1.1 q (xs (x3 + 1).toNatClampNeg) (xs (x3 + 2).toNatClampNeg) (xs (x3 + 3).toNatClampNeg) (xs (x3 + 4).toNatClampNeg) (xs (x3 + 5).toNatClampNeg) (xs (x3 + 6).toNatClampNeg) _ e2) zm_1367 zm_1368 zm_1369 zq_X10_remark zm_79 (by decide +kernel) ⟨Nat.le_of_ble_eq_true rfl, Nat.le_of_ble_eq_true rfl⟩ rfl rfl rfl (zi_X10_remark e2) hl.1 rfl (by simp [zv_cat, zv_ci, zv_cj]) zd_L_law_901 ⟨(by show (cells + 2) + (0 : Nat) ≤ (600000 : Nat); omega), (by show (slots + 46) + (0 : Nat) ≤ (7302250 : Nat); omega)⟩ (fun H locs hw => ?_)
  replace hw : zc_W g r2.1 H locs := hw
  refine W.widen (k := ((cells + 2) + 0)) (n := ((slots + 46) + 0)) (Nat.le_refl _) (Nat.le_refl _) ?_
  refine lv_icmp_eq (tgt := 1469) hx hb zd_L_law_904 (by decide) (fun _ => ?_) (fun c9 => absurd e12 c9)
  exact hnext r2.1 _ _ _ _ _ hw hI hl (by omega) (by omega)
set_option maxHeartbeats 4000000 in
set_option maxRecDepth 20000 in
theorem zl_case18 {p : Program} {e : Env} {s : State} {m : MethodId} {below : List Frame} {meth : Method} {c : Code} (l : Launch) {b L : Nat} {xs : Nat → Int32} (hL : L ≤ 3584) (g : zc_G) (P q : Nat) (Inv : zc_H → Prop) (S : CallFix p m c code 4 s #[Value.ref b] (.initialized RL :: zc_T) RL) (hK : zc_K g s) (hX : va_X b L xs s s.heap) (hz : g.2.2.1.1 = s.heap.size) (hH : g.2.2.1.2 = s.heap) (hbl : b < s.heap.size) {i : Nat} {x3 : Int32} (e3 : x3 = nI (7 * i)) (hi7 : 7 * i + 7 ≤ L) {h : zc_H} {H : Heap} {locs : List Loc} {ls : Array Slot} {cells slots : Nat} (hw : zc_W g h H locs) (hI : Inv h) (hl : lv_has ls 4 [(0, va_rf (some b)), (1, va_rf (some P)), (2, va_rf (some q)), (3, .int x3)]) (hcl : cells + 600 ≤ 600000) (hsl : slots + 24000 ≤ 7302250) (hop18 : zl_op18 Inv P q) (hnext : ∀ (h : zc_H) (H : Heap) (locs : List Loc) (ls : Array Slot) (cells1 slots1 : Nat), zc_W g h H locs → Inv h → lv_has ls 4 [(0, va_rf (some b)), (1, va_rf (some P)), (2, va_rf (some q)), (3, .int x3)] → cells1 ≤ cells + 289 → slots1 ≤ slots + 11560 → W p l e room_1 s m #[Value.ref b] below meth c H locs cells1 slots1 (lw_Z below #[Value.ref b] s) (F0 m 1469 ls [])) : W p l e room_1 s m #[Value.ref b] below meth c H locs cells slots (lw_Z below #[Value.ref b] s) (F0 m 909 ls []) := by
  have hx := S.1
  have hb := S.2.1
  refine zl_aload_n hx hb zd_L_law_909 rfl (lv_at hl 1 rfl) ?_
  refine zl_aload_n hx hb zd_L_law_910 rfl (lv_at hl 0 rfl) ?_
  refine lv_iload_n hx hb zd_L_law_911 rfl (lv_at hl 3 rfl) ?_
  refine lv_iconst (v := 1) hx hb zd_L_law_912 (by decide) ?_
  refine lv_iadd hx hb zd_L_law_913 ?_
  refine zl_sld S hw hX hz hH hbl (zl_in e3 hi7 hL 1 (by decide)) zd_L_law_914 ?_
  refine zl_aload_n hx hb zd_L_law_915 rfl (lv_at hl 0 rfl) ?_
  refine lv_iload_n hx hb zd_L_law_916 rfl (lv_at hl 3 rfl) ?_
  refine lv_iconst (v := 2) hx hb zd_L_law_917 (by decide) ?_
  refine lv_iadd hx hb zd_L_law_918 ?_
  refine zl_sld S hw hX hz hH hbl (zl_in e3 hi7 hL 2 (by decide)) zd_L_law_919 ?_
  obtain ⟨r1, r2, e1, e2, e12, hI⟩ := hop18 h (xs (x3 + 1).toNatClampNeg) (xs (x3 + 2).toNatClampNeg) hI
  refine zw_callV (n := 2) (ci := 9) (q := zc_cl[9]) (As := [.int ((xs (x3 + 1).toNatClampNeg)), .int ((xs (x3 + 2).toNatClampNeg))]) (rest := []) S hK hw (zt_X9_remarkOf l g h P (xs (x3 + 1).toNatClampNeg) (xs (x3 + 2).toNatClampNeg) _ e1) zm_788 zm_789 zm_790 zq_X9_remarkOf zm_68 (by decide +kernel) ⟨Nat.le_of_ble_eq_true rfl, Nat.le_of_ble_eq_true rfl⟩ rfl rfl rfl (zi_X9_remarkOf e1) hl.1 rfl (by simp [zv_cat, zv_ci, zv_cj]) zd_L_law_920 ⟨(by show cells + (0 : Nat) ≤ (600000 : Nat); omega), (by show slots + (0 : Nat) ≤ (7302250 : Nat); omega)⟩ (fun H locs hw => ?_)
  replace hw : zc_W g r1.1 H locs := hw
  refine W.widen (k := (cells + 0)) (n := (slots + 0)) (Nat.le_refl _) (Nat.le_refl _) ?_
  refine zl_aload_n hx hb zd_L_law_923 rfl (lv_at hl 2 rfl) ?_
  refine zl_aload_n hx hb zd_L_law_924 rfl (lv_at hl 0 rfl) ?_
  refine lv_iload_n hx hb zd_L_law_925 rfl (lv_at hl 3 rfl) ?_
  refine lv_iconst (v := 1) hx hb zd_L_law_926 (by decide) ?_
  refine lv_iadd hx hb zd_L_law_927 ?_
  refine zl_sld S hw hX hz hH hbl (zl_in e3 hi7 hL 1 (by decide)) zd_L_law_928 ?_
  refine zl_aload_n hx hb zd_L_law_929 rfl (lv_at hl 0 rfl) ?_
  refine lv_iload_n hx hb zd_L_law_930 rfl (lv_at hl 3 rfl) ?_
  refine lv_iconst (v := 2) hx hb zd_L_law_931 (by decide) ?_
  refine lv_iadd hx hb zd_L_law_932 ?_
  refine zl_sld S hw hX hz hH hbl (zl_in e3 hi7 hL 2 (by decide)) zd_L_law_933 ?_
  refine zw_callV (n := 2) (ci := 10) (q := zc_cl[10]) (As := [.int ((xs (x3 + 1).toNatClampNeg)), .int ((xs (x3 + 2).toNatClampNeg))]) (rest := [.int (r1.2)]) S hK hw (zt_X10_remarkOf l g r1.1 q (xs (x3 + 1).toNatClampNeg) (xs (x3 + 2).toNatClampNeg) _ e2) zm_1375 zm_1376 zm_1377 zq_X10_remarkOf zm_79 (by decide +kernel) ⟨Nat.le_of_ble_eq_true rfl, Nat.le_of_ble_eq_true rfl⟩ rfl rfl rfl (zi_X10_remarkOf e2) hl.1 rfl (by simp [zv_cat, zv_ci, zv_cj]) zd_L_law_934 ⟨(by show (cells + 0) + (0 : Nat) ≤ (600000 : Nat); omega), (by show (slots + 0) + (0 : Nat) ≤ (7302250 : Nat); omega)⟩ (fun H locs hw => ?_)
  replace hw : zc_W g r2.1 H locs := hw
  refine W.widen (k := ((cells + 0) + 0)) (n := ((slots + 0) + 0)) (Nat.le_refl _) (Nat.le_refl _) ?_
  refine lv_icmp_eq (tgt := 1469) hx hb zd_L_law_937 (by decide) (fun _ => ?_) (fun c9 => absurd e12 c9)
  exact hnext r2.1 _ _ _ _ _ hw hI hl (by omega) (by omega)
set_option maxHeartbeats 4000000 in
set_option maxRecDepth 20000 in
theorem zl_case19 {p : Program} {e : Env} {s : State} {m : MethodId} {below : List Frame} {meth : Method} {c : Code} (l : Launch) {b L : Nat} {xs : Nat → Int32} (hL : L ≤ 3584) (g : zc_G) (P q : Nat) (Inv : zc_H → Prop) (S : CallFix p m c code 4 s #[Value.ref b] (.initialized RL :: zc_T) RL) (hK : zc_K g s) (hX : va_X b L xs s s.heap) (hz : g.2.2.1.1 = s.heap.size) (hH : g.2.2.1.2 = s.heap) (hbl : b < s.heap.size) {i : Nat} {x3 : Int32} (e3 : x3 = nI (7 * i)) (hi7 : 7 * i + 7 ≤ L) {h : zc_H} {H : Heap} {locs : List Loc} {ls : Array Slot} {cells slots : Nat} (hw : zc_W g h H locs) (hI : Inv h) (hl : lv_has ls 4 [(0, va_rf (some b)), (1, va_rf (some P)), (2, va_rf (some q)), (3, .int x3)]) (hcl : cells + 600 ≤ 600000) (hsl : slots + 24000 ≤ 7302250) (hop19 : zl_op19 Inv P q) (hnext : ∀ (h : zc_H) (H : Heap) (locs : List Loc) (ls : Array Slot) (cells1 slots1 : Nat), zc_W g h H locs → Inv h → lv_has ls 4 [(0, va_rf (some b)), (1, va_rf (some P)), (2, va_rf (some q)), (3, .int x3)] → cells1 ≤ cells + 289 → slots1 ≤ slots + 11560 → W p l e room_1 s m #[Value.ref b] below meth c H locs cells1 slots1 (lw_Z below #[Value.ref b] s) (F0 m 1469 ls [])) : W p l e room_1 s m #[Value.ref b] below meth c H locs cells slots (lw_Z below #[Value.ref b] s) (F0 m 942 ls []) := by
  have hx := S.1
  have hb := S.2.1
  refine zl_aload_n hx hb zd_L_law_942 rfl (lv_at hl 1 rfl) ?_
  refine zl_aload_n hx hb zd_L_law_943 rfl (lv_at hl 0 rfl) ?_
  refine lv_iload_n hx hb zd_L_law_944 rfl (lv_at hl 3 rfl) ?_
  refine lv_iconst (v := 1) hx hb zd_L_law_945 (by decide) ?_
  refine lv_iadd hx hb zd_L_law_946 ?_
  refine zl_sld S hw hX hz hH hbl (zl_in e3 hi7 hL 1 (by decide)) zd_L_law_947 ?_
  refine zl_aload_n hx hb zd_L_law_948 rfl (lv_at hl 0 rfl) ?_
  refine lv_iload_n hx hb zd_L_law_949 rfl (lv_at hl 3 rfl) ?_
  refine lv_iconst (v := 2) hx hb zd_L_law_950 (by decide) ?_
  refine lv_iadd hx hb zd_L_law_951 ?_
  refine zl_sld S hw hX hz hH hbl (zl_in e3 hi7 hL 2 (by decide)) zd_L_law_952 ?_
  refine lv_if_eq (tgt := 960) hx hb zd_L_law_953 (by decide) (fun c1 => ?_) (fun c1 => ?_)
  · refine lv_iconst (v := 0) hx hb zd_L_law_960 (by decide) ?_
    obtain ⟨r1, r2, e1, e2, e12, hI⟩ := hop19 h (xs (x3 + 1).toNatClampNeg) 0 hI
    refine zw_callV (n := 2) (ci := 9) (q := zc_cl[9]) (As := [.int ((xs (x3 + 1).toNatClampNeg)), .int (0)]) (rest := []) S hK hw (zt_X9_settle l g h P (xs (x3 + 1).toNatClampNeg) 0 _ e1) zm_816 zm_817 zm_818 zq_X9_settle zm_68 (by decide +kernel) ⟨Nat.le_of_ble_eq_true rfl, Nat.le_of_ble_eq_true rfl⟩ rfl rfl rfl (zi_X9_settle e1) hl.1 rfl (by simp [zv_cat, zv_ci, zv_cj]) zd_L_law_961 ⟨(by show cells + (0 : Nat) ≤ (600000 : Nat); omega), (by show slots + (0 : Nat) ≤ (7302250 : Nat); omega)⟩ (fun H locs hw => ?_)
    replace hw : zc_W g r1.1 H locs := hw
    refine W.widen (k := (cells + 0)) (n := (slots + 0)) (Nat.le_refl _) (Nat.le_refl _) ?_
    refine zl_aload_n hx hb zd_L_law_964 rfl (lv_at hl 2 rfl) ?_
    refine zl_aload_n hx hb zd_L_law_965 rfl (lv_at hl 0 rfl) ?_
    refine lv_iload_n hx hb zd_L_law_966 rfl (lv_at hl 3 rfl) ?_
    refine lv_iconst (v := 1) hx hb zd_L_law_967 (by decide) ?_
    refine lv_iadd hx hb zd_L_law_968 ?_
    refine zl_sld S hw hX hz hH hbl (zl_in e3 hi7 hL 1 (by decide)) zd_L_law_969 ?_
    refine zl_aload_n hx hb zd_L_law_970 rfl (lv_at hl 0 rfl) ?_
    refine lv_iload_n hx hb zd_L_law_971 rfl (lv_at hl 3 rfl) ?_
    refine lv_iconst (v := 2) hx hb zd_L_law_972 (by decide) ?_
    refine lv_iadd hx hb zd_L_law_973 ?_
    refine zl_sld S hw hX hz hH hbl (zl_in e3 hi7 hL 2 (by decide)) zd_L_law_974 ?_
    refine lv_if_eq (tgt := 982) hx hb zd_L_law_975 (by decide) (fun _ => ?_) (fun c9 => absurd c1 c9)
    refine lv_iconst (v := 0) hx hb zd_L_law_982 (by decide) ?_
    refine zw_callV (n := 2) (ci := 10) (q := zc_cl[10]) (As := [.int ((xs (x3 + 1).toNatClampNeg)), .int (0)]) (rest := [.int (r1.2)]) S hK hw (zt_X10_settle l g r1.1 q (xs (x3 + 1).toNatClampNeg) 0 _ e2) zm_1395 zm_1396 zm_1397 zq_X10_settle zm_79 (by decide +kernel) ⟨Nat.le_of_ble_eq_true rfl, Nat.le_of_ble_eq_true rfl⟩ rfl rfl rfl (zi_X10_settle e2) hl.1 rfl (by simp [zv_cat, zv_ci, zv_cj]) zd_L_law_983 ⟨(by show (cells + 0) + (0 : Nat) ≤ (600000 : Nat); omega), (by show (slots + 0) + (0 : Nat) ≤ (7302250 : Nat); omega)⟩ (fun H locs hw => ?_)
    replace hw : zc_W g r2.1 H locs := hw
    refine W.widen (k := ((cells + 0) + 0)) (n := ((slots + 0) + 0)) (Nat.le_refl _) (Nat.le_refl _) ?_
    refine lv_icmp_eq (tgt := 1469) hx hb zd_L_law_986 (by decide) (fun _ => ?_) (fun c9 => absurd e12 c9)
    exact hnext r2.1 _ _ _ _ _ hw hI hl (by omega) (by omega)
  · refine lv_iconst (v := 1) hx hb zd_L_law_956 (by decide) ?_
    refine lv_goto (tgt := 961) hx hb zd_L_law_957 (by decide) ?_
    obtain ⟨r1, r2, e1, e2, e12, hI⟩ := hop19 h (xs (x3 + 1).toNatClampNeg) 1 hI
    refine zw_callV (n := 2) (ci := 9) (q := zc_cl[9]) (As := [.int ((xs (x3 + 1).toNatClampNeg)), .int (1)]) (rest := []) S hK hw (zt_X9_settle l g h P (xs (x3 + 1).toNatClampNeg) 1 _ e1) zm_816 zm_817 zm_818 zq_X9_settle zm_68 (by decide +kernel) ⟨Nat.le_of_ble_eq_true rfl, Nat.le_of_ble_eq_true rfl⟩ rfl rfl rfl (zi_X9_settle e1) hl.1 rfl (by simp [zv_cat, zv_ci, zv_cj]) zd_L_law_961 ⟨(by show cells + (0 : Nat) ≤ (600000 : Nat); omega), (by show slots + (0 : Nat) ≤ (7302250 : Nat); omega)⟩ (fun H locs hw => ?_)
    replace hw : zc_W g r1.1 H locs := hw
    refine W.widen (k := (cells + 0)) (n := (slots + 0)) (Nat.le_refl _) (Nat.le_refl _) ?_
    refine zl_aload_n hx hb zd_L_law_964 rfl (lv_at hl 2 rfl) ?_
    refine zl_aload_n hx hb zd_L_law_965 rfl (lv_at hl 0 rfl) ?_
    refine lv_iload_n hx hb zd_L_law_966 rfl (lv_at hl 3 rfl) ?_
    refine lv_iconst (v := 1) hx hb zd_L_law_967 (by decide) ?_
    refine lv_iadd hx hb zd_L_law_968 ?_
    refine zl_sld S hw hX hz hH hbl (zl_in e3 hi7 hL 1 (by decide)) zd_L_law_969 ?_
    refine zl_aload_n hx hb zd_L_law_970 rfl (lv_at hl 0 rfl) ?_
    refine lv_iload_n hx hb zd_L_law_971 rfl (lv_at hl 3 rfl) ?_
    refine lv_iconst (v := 2) hx hb zd_L_law_972 (by decide) ?_
    refine lv_iadd hx hb zd_L_law_973 ?_
    refine zl_sld S hw hX hz hH hbl (zl_in e3 hi7 hL 2 (by decide)) zd_L_law_974 ?_
    refine lv_if_eq (tgt := 982) hx hb zd_L_law_975 (by decide) (fun c9 => absurd c9 c1) (fun _ => ?_)
    refine lv_iconst (v := 1) hx hb zd_L_law_978 (by decide) ?_
    refine lv_goto (tgt := 983) hx hb zd_L_law_979 (by decide) ?_
    refine zw_callV (n := 2) (ci := 10) (q := zc_cl[10]) (As := [.int ((xs (x3 + 1).toNatClampNeg)), .int (1)]) (rest := [.int (r1.2)]) S hK hw (zt_X10_settle l g r1.1 q (xs (x3 + 1).toNatClampNeg) 1 _ e2) zm_1395 zm_1396 zm_1397 zq_X10_settle zm_79 (by decide +kernel) ⟨Nat.le_of_ble_eq_true rfl, Nat.le_of_ble_eq_true rfl⟩ rfl rfl rfl (zi_X10_settle e2) hl.1 rfl (by simp [zv_cat, zv_ci, zv_cj]) zd_L_law_983 ⟨(by show (cells + 0) + (0 : Nat) ≤ (600000 : Nat); omega), (by show (slots + 0) + (0 : Nat) ≤ (7302250 : Nat); omega)⟩ (fun H locs hw => ?_)
    replace hw : zc_W g r2.1 H locs := hw
    refine W.widen (k := ((cells + 0) + 0)) (n := ((slots + 0) + 0)) (Nat.le_refl _) (Nat.le_refl _) ?_
    refine lv_icmp_eq (tgt := 1469) hx hb zd_L_law_986 (by decide) (fun _ => ?_) (fun c9 => absurd e12 c9)
    exact hnext r2.1 _ _ _ _ _ hw hI hl (by omega) (by omega)
set_option maxHeartbeats 4000000 in
set_option maxRecDepth 20000 in
theorem zl_case20 {p : Program} {e : Env} {s : State} {m : MethodId} {below : List Frame} {meth : Method} {c : Code} (l : Launch) {b L : Nat} {xs : Nat → Int32} (hL : L ≤ 3584) (g : zc_G) (P q : Nat) (Inv : zc_H → Prop) (S : CallFix p m c code 4 s #[Value.ref b] (.initialized RL :: zc_T) RL) (hK : zc_K g s) (hX : va_X b L xs s s.heap) (hz : g.2.2.1.1 = s.heap.size) (hH : g.2.2.1.2 = s.heap) (hbl : b < s.heap.size) {i : Nat} {x3 : Int32} (e3 : x3 = nI (7 * i)) (hi7 : 7 * i + 7 ≤ L) {h : zc_H} {H : Heap} {locs : List Loc} {ls : Array Slot} {cells slots : Nat} (hw : zc_W g h H locs) (hI : Inv h) (hl : lv_has ls 4 [(0, va_rf (some b)), (1, va_rf (some P)), (2, va_rf (some q)), (3, .int x3)]) (hcl : cells + 600 ≤ 600000) (hsl : slots + 24000 ≤ 7302250) (hop20 : zl_op20 Inv P q) (hnext : ∀ (h : zc_H) (H : Heap) (locs : List Loc) (ls : Array Slot) (cells1 slots1 : Nat), zc_W g h H locs → Inv h → lv_has ls 4 [(0, va_rf (some b)), (1, va_rf (some P)), (2, va_rf (some q)), (3, .int x3)] → cells1 ≤ cells + 289 → slots1 ≤ slots + 11560 → W p l e room_1 s m #[Value.ref b] below meth c H locs cells1 slots1 (lw_Z below #[Value.ref b] s) (F0 m 1469 ls [])) : W p l e room_1 s m #[Value.ref b] below meth c H locs cells slots (lw_Z below #[Value.ref b] s) (F0 m 991 ls []) := by
  have hx := S.1
  have hb := S.2.1
  refine zl_aload_n hx hb zd_L_law_991 rfl (lv_at hl 1 rfl) ?_
  refine zl_aload_n hx hb zd_L_law_992 rfl (lv_at hl 0 rfl) ?_
  refine lv_iload_n hx hb zd_L_law_993 rfl (lv_at hl 3 rfl) ?_
  refine lv_iconst (v := 1) hx hb zd_L_law_994 (by decide) ?_
  refine lv_iadd hx hb zd_L_law_995 ?_
  refine zl_sld S hw hX hz hH hbl (zl_in e3 hi7 hL 1 (by decide)) zd_L_law_996 ?_
  refine zl_aload_n hx hb zd_L_law_997 rfl (lv_at hl 0 rfl) ?_
  refine lv_iload_n hx hb zd_L_law_998 rfl (lv_at hl 3 rfl) ?_
  refine lv_iconst (v := 2) hx hb zd_L_law_999 (by decide) ?_
  refine lv_iadd hx hb zd_L_law_1000 ?_
  refine zl_sld S hw hX hz hH hbl (zl_in e3 hi7 hL 2 (by decide)) zd_L_law_1001 ?_
  refine zl_aload_n hx hb zd_L_law_1002 rfl (lv_at hl 0 rfl) ?_
  refine lv_iload_n hx hb zd_L_law_1003 rfl (lv_at hl 3 rfl) ?_
  refine lv_iconst (v := 3) hx hb zd_L_law_1004 (by decide) ?_
  refine lv_iadd hx hb zd_L_law_1005 ?_
  refine zl_sld S hw hX hz hH hbl (zl_in e3 hi7 hL 3 (by decide)) zd_L_law_1006 ?_
  obtain ⟨r1, r2, e1, e2, e12, hI⟩ := hop20 h (xs (x3 + 1).toNatClampNeg) (xs (x3 + 2).toNatClampNeg) (xs (x3 + 3).toNatClampNeg) hI
  refine zw_callV (n := 3) (ci := 9) (q := zc_cl[9]) (As := [.int ((xs (x3 + 1).toNatClampNeg)), .int ((xs (x3 + 2).toNatClampNeg)), .int ((xs (x3 + 3).toNatClampNeg))]) (rest := []) S hK hw (zt_X9_put l g h P (xs (x3 + 1).toNatClampNeg) (xs (x3 + 2).toNatClampNeg) (xs (x3 + 3).toNatClampNeg) _ e1) zm_820 zm_821 zm_822 zq_X9_put zm_68 (by decide +kernel) ⟨Nat.le_of_ble_eq_true rfl, Nat.le_of_ble_eq_true rfl⟩ rfl rfl rfl (zi_X9_put e1) hl.1 rfl (by simp [zv_cat, zv_ci, zv_cj]) zd_L_law_1007 ⟨(by show cells + (17 : Nat) ≤ (600000 : Nat); omega), (by show slots + (680 : Nat) ≤ (7302250 : Nat); omega)⟩ (fun H locs hw => ?_)
  replace hw : zc_W g r1.1 H locs := hw
  refine W.widen (k := (cells + 17)) (n := (slots + 680)) (Nat.le_refl _) (Nat.le_refl _) ?_
  refine zl_aload_n hx hb zd_L_law_1010 rfl (lv_at hl 2 rfl) ?_
  refine zl_aload_n hx hb zd_L_law_1011 rfl (lv_at hl 0 rfl) ?_
  refine lv_iload_n hx hb zd_L_law_1012 rfl (lv_at hl 3 rfl) ?_
  refine lv_iconst (v := 1) hx hb zd_L_law_1013 (by decide) ?_
  refine lv_iadd hx hb zd_L_law_1014 ?_
  refine zl_sld S hw hX hz hH hbl (zl_in e3 hi7 hL 1 (by decide)) zd_L_law_1015 ?_
  refine zl_aload_n hx hb zd_L_law_1016 rfl (lv_at hl 0 rfl) ?_
  refine lv_iload_n hx hb zd_L_law_1017 rfl (lv_at hl 3 rfl) ?_
  refine lv_iconst (v := 2) hx hb zd_L_law_1018 (by decide) ?_
  refine lv_iadd hx hb zd_L_law_1019 ?_
  refine zl_sld S hw hX hz hH hbl (zl_in e3 hi7 hL 2 (by decide)) zd_L_law_1020 ?_
  refine zl_aload_n hx hb zd_L_law_1021 rfl (lv_at hl 0 rfl) ?_
  refine lv_iload_n hx hb zd_L_law_1022 rfl (lv_at hl 3 rfl) ?_
  refine lv_iconst (v := 3) hx hb zd_L_law_1023 (by decide) ?_
  refine lv_iadd hx hb zd_L_law_1024 ?_
  refine zl_sld S hw hX hz hH hbl (zl_in e3 hi7 hL 3 (by decide)) zd_L_law_1025 ?_
  refine zw_callV (n := 3) (ci := 10) (q := zc_cl[10]) (As := [.int ((xs (x3 + 1).toNatClampNeg)), .int ((xs (x3 + 2).toNatClampNeg)), .int ((xs (x3 + 3).toNatClampNeg))]) (rest := [.int (r1.2)]) S hK hw (zt_X10_put l g r1.1 q (xs (x3 + 1).toNatClampNeg) (xs (x3 + 2).toNatClampNeg) (xs (x3 + 3).toNatClampNeg) _ e2) zm_1399 zm_1400 zm_1401 zq_X10_put zm_79 (by decide +kernel) ⟨Nat.le_of_ble_eq_true rfl, Nat.le_of_ble_eq_true rfl⟩ rfl rfl rfl (zi_X10_put e2) hl.1 rfl (by simp [zv_cat, zv_ci, zv_cj]) zd_L_law_1026 ⟨(by show (cells + 17) + (0 : Nat) ≤ (600000 : Nat); omega), (by show (slots + 680) + (0 : Nat) ≤ (7302250 : Nat); omega)⟩ (fun H locs hw => ?_)
  replace hw : zc_W g r2.1 H locs := hw
  refine W.widen (k := ((cells + 17) + 0)) (n := ((slots + 680) + 0)) (Nat.le_refl _) (Nat.le_refl _) ?_
  refine lv_icmp_eq (tgt := 1469) hx hb zd_L_law_1029 (by decide) (fun _ => ?_) (fun c9 => absurd e12 c9)
  exact hnext r2.1 _ _ _ _ _ hw hI hl (by omega) (by omega)
set_option maxHeartbeats 4000000 in
set_option maxRecDepth 20000 in
theorem zl_case21 {p : Program} {e : Env} {s : State} {m : MethodId} {below : List Frame} {meth : Method} {c : Code} (l : Launch) {b L : Nat} {xs : Nat → Int32} (hL : L ≤ 3584) (g : zc_G) (P q : Nat) (Inv : zc_H → Prop) (S : CallFix p m c code 4 s #[Value.ref b] (.initialized RL :: zc_T) RL) (hK : zc_K g s) (hX : va_X b L xs s s.heap) (hz : g.2.2.1.1 = s.heap.size) (hH : g.2.2.1.2 = s.heap) (hbl : b < s.heap.size) {i : Nat} {x3 : Int32} (e3 : x3 = nI (7 * i)) (hi7 : 7 * i + 7 ≤ L) {h : zc_H} {H : Heap} {locs : List Loc} {ls : Array Slot} {cells slots : Nat} (hw : zc_W g h H locs) (hI : Inv h) (hl : lv_has ls 4 [(0, va_rf (some b)), (1, va_rf (some P)), (2, va_rf (some q)), (3, .int x3)]) (hcl : cells + 600 ≤ 600000) (hsl : slots + 24000 ≤ 7302250) (hop21 : zl_op21 Inv P q) (hnext : ∀ (h : zc_H) (H : Heap) (locs : List Loc) (ls : Array Slot) (cells1 slots1 : Nat), zc_W g h H locs → Inv h → lv_has ls 4 [(0, va_rf (some b)), (1, va_rf (some P)), (2, va_rf (some q)), (3, .int x3)] → cells1 ≤ cells + 289 → slots1 ≤ slots + 11560 → W p l e room_1 s m #[Value.ref b] below meth c H locs cells1 slots1 (lw_Z below #[Value.ref b] s) (F0 m 1469 ls [])) : W p l e room_1 s m #[Value.ref b] below meth c H locs cells slots (lw_Z below #[Value.ref b] s) (F0 m 1034 ls []) := by
  have hx := S.1
  have hb := S.2.1
  refine zl_aload_n hx hb zd_L_law_1034 rfl (lv_at hl 1 rfl) ?_
  refine zl_aload_n hx hb zd_L_law_1035 rfl (lv_at hl 0 rfl) ?_
  refine lv_iload_n hx hb zd_L_law_1036 rfl (lv_at hl 3 rfl) ?_
  refine lv_iconst (v := 1) hx hb zd_L_law_1037 (by decide) ?_
  refine lv_iadd hx hb zd_L_law_1038 ?_
  refine zl_sld S hw hX hz hH hbl (zl_in e3 hi7 hL 1 (by decide)) zd_L_law_1039 ?_
  refine zl_aload_n hx hb zd_L_law_1040 rfl (lv_at hl 0 rfl) ?_
  refine lv_iload_n hx hb zd_L_law_1041 rfl (lv_at hl 3 rfl) ?_
  refine lv_iconst (v := 2) hx hb zd_L_law_1042 (by decide) ?_
  refine lv_iadd hx hb zd_L_law_1043 ?_
  refine zl_sld S hw hX hz hH hbl (zl_in e3 hi7 hL 2 (by decide)) zd_L_law_1044 ?_
  refine zl_aload_n hx hb zd_L_law_1045 rfl (lv_at hl 0 rfl) ?_
  refine lv_iload_n hx hb zd_L_law_1046 rfl (lv_at hl 3 rfl) ?_
  refine lv_iconst (v := 3) hx hb zd_L_law_1047 (by decide) ?_
  refine lv_iadd hx hb zd_L_law_1048 ?_
  refine zl_sld S hw hX hz hH hbl (zl_in e3 hi7 hL 3 (by decide)) zd_L_law_1049 ?_
  obtain ⟨r1, r2, e1, e2, e12, hI⟩ := hop21 h (xs (x3 + 1).toNatClampNeg) (xs (x3 + 2).toNatClampNeg) (xs (x3 + 3).toNatClampNeg) hI
  refine zw_callV (n := 3) (ci := 9) (q := zc_cl[9]) (As := [.int ((xs (x3 + 1).toNatClampNeg)), .int ((xs (x3 + 2).toNatClampNeg)), .int ((xs (x3 + 3).toNatClampNeg))]) (rest := []) S hK hw (zt_X9_score l g h P (xs (x3 + 1).toNatClampNeg) (xs (x3 + 2).toNatClampNeg) (xs (x3 + 3).toNatClampNeg) _ e1) zm_888 zm_889 zm_890 zq_X9_score zm_68 (by decide +kernel) ⟨Nat.le_of_ble_eq_true rfl, Nat.le_of_ble_eq_true rfl⟩ rfl rfl rfl (zi_X9_score e1) hl.1 rfl (by simp [zv_cat, zv_ci, zv_cj]) zd_L_law_1050 ⟨(by show cells + (17 : Nat) ≤ (600000 : Nat); omega), (by show slots + (680 : Nat) ≤ (7302250 : Nat); omega)⟩ (fun H locs hw => ?_)
  replace hw : zc_W g r1.1 H locs := hw
  refine W.widen (k := (cells + 17)) (n := (slots + 680)) (Nat.le_refl _) (Nat.le_refl _) ?_
  refine zl_aload_n hx hb zd_L_law_1053 rfl (lv_at hl 2 rfl) ?_
  refine zl_aload_n hx hb zd_L_law_1054 rfl (lv_at hl 0 rfl) ?_
  refine lv_iload_n hx hb zd_L_law_1055 rfl (lv_at hl 3 rfl) ?_
  refine lv_iconst (v := 1) hx hb zd_L_law_1056 (by decide) ?_
  refine lv_iadd hx hb zd_L_law_1057 ?_
  refine zl_sld S hw hX hz hH hbl (zl_in e3 hi7 hL 1 (by decide)) zd_L_law_1058 ?_
  refine zl_aload_n hx hb zd_L_law_1059 rfl (lv_at hl 0 rfl) ?_
  refine lv_iload_n hx hb zd_L_law_1060 rfl (lv_at hl 3 rfl) ?_
  refine lv_iconst (v := 2) hx hb zd_L_law_1061 (by decide) ?_
  refine lv_iadd hx hb zd_L_law_1062 ?_
  refine zl_sld S hw hX hz hH hbl (zl_in e3 hi7 hL 2 (by decide)) zd_L_law_1063 ?_
  refine zl_aload_n hx hb zd_L_law_1064 rfl (lv_at hl 0 rfl) ?_
  refine lv_iload_n hx hb zd_L_law_1065 rfl (lv_at hl 3 rfl) ?_
  refine lv_iconst (v := 3) hx hb zd_L_law_1066 (by decide) ?_
  refine lv_iadd hx hb zd_L_law_1067 ?_
  refine zl_sld S hw hX hz hH hbl (zl_in e3 hi7 hL 3 (by decide)) zd_L_law_1068 ?_
  refine zw_callV (n := 3) (ci := 10) (q := zc_cl[10]) (As := [.int ((xs (x3 + 1).toNatClampNeg)), .int ((xs (x3 + 2).toNatClampNeg)), .int ((xs (x3 + 3).toNatClampNeg))]) (rest := [.int (r1.2)]) S hK hw (zt_X10_score_ l g r1.1 q (xs (x3 + 1).toNatClampNeg) (xs (x3 + 2).toNatClampNeg) (xs (x3 + 3).toNatClampNeg) _ e2) zm_1436 zm_1437 zm_1438 zq_X10_score_ zm_79 (by decide +kernel) ⟨Nat.le_of_ble_eq_true rfl, Nat.le_of_ble_eq_true rfl⟩ rfl rfl rfl (zi_X10_score_ e2) hl.1 rfl (by simp [zv_cat, zv_ci, zv_cj]) zd_L_law_1069 ⟨(by show (cells + 17) + (0 : Nat) ≤ (600000 : Nat); omega), (by show (slots + 680) + (0 : Nat) ≤ (7302250 : Nat); omega)⟩ (fun H locs hw => ?_)
  replace hw : zc_W g r2.1 H locs := hw
  refine W.widen (k := ((cells + 17) + 0)) (n := ((slots + 680) + 0)) (Nat.le_refl _) (Nat.le_refl _) ?_
  refine lv_icmp_eq (tgt := 1469) hx hb zd_L_law_1072 (by decide) (fun _ => ?_) (fun c9 => absurd e12 c9)
  exact hnext r2.1 _ _ _ _ _ hw hI hl (by omega) (by omega)
set_option maxHeartbeats 4000000 in
set_option maxRecDepth 20000 in
theorem zl_case22 {p : Program} {e : Env} {s : State} {m : MethodId} {below : List Frame} {meth : Method} {c : Code} (l : Launch) {b L : Nat} {xs : Nat → Int32} (hL : L ≤ 3584) (g : zc_G) (P q : Nat) (Inv : zc_H → Prop) (S : CallFix p m c code 4 s #[Value.ref b] (.initialized RL :: zc_T) RL) (hK : zc_K g s) (hX : va_X b L xs s s.heap) (hz : g.2.2.1.1 = s.heap.size) (hH : g.2.2.1.2 = s.heap) (hbl : b < s.heap.size) {i : Nat} {x3 : Int32} (e3 : x3 = nI (7 * i)) (hi7 : 7 * i + 7 ≤ L) {h : zc_H} {H : Heap} {locs : List Loc} {ls : Array Slot} {cells slots : Nat} (hw : zc_W g h H locs) (hI : Inv h) (hl : lv_has ls 4 [(0, va_rf (some b)), (1, va_rf (some P)), (2, va_rf (some q)), (3, .int x3)]) (hcl : cells + 600 ≤ 600000) (hsl : slots + 24000 ≤ 7302250) (hop22 : zl_op22 Inv P q) (hnext : ∀ (h : zc_H) (H : Heap) (locs : List Loc) (ls : Array Slot) (cells1 slots1 : Nat), zc_W g h H locs → Inv h → lv_has ls 4 [(0, va_rf (some b)), (1, va_rf (some P)), (2, va_rf (some q)), (3, .int x3)] → cells1 ≤ cells + 289 → slots1 ≤ slots + 11560 → W p l e room_1 s m #[Value.ref b] below meth c H locs cells1 slots1 (lw_Z below #[Value.ref b] s) (F0 m 1469 ls [])) : W p l e room_1 s m #[Value.ref b] below meth c H locs cells slots (lw_Z below #[Value.ref b] s) (F0 m 1077 ls []) := by
  have hx := S.1
  have hb := S.2.1
  refine zl_aload_n hx hb zd_L_law_1077 rfl (lv_at hl 1 rfl) ?_
  refine zl_aload_n hx hb zd_L_law_1078 rfl (lv_at hl 0 rfl) ?_
  refine lv_iload_n hx hb zd_L_law_1079 rfl (lv_at hl 3 rfl) ?_
  refine lv_iconst (v := 1) hx hb zd_L_law_1080 (by decide) ?_
  refine lv_iadd hx hb zd_L_law_1081 ?_
  refine zl_sld S hw hX hz hH hbl (zl_in e3 hi7 hL 1 (by decide)) zd_L_law_1082 ?_
  refine zl_aload_n hx hb zd_L_law_1083 rfl (lv_at hl 0 rfl) ?_
  refine lv_iload_n hx hb zd_L_law_1084 rfl (lv_at hl 3 rfl) ?_
  refine lv_iconst (v := 2) hx hb zd_L_law_1085 (by decide) ?_
  refine lv_iadd hx hb zd_L_law_1086 ?_
  refine zl_sld S hw hX hz hH hbl (zl_in e3 hi7 hL 2 (by decide)) zd_L_law_1087 ?_
  obtain ⟨r1, r2, e1, e2, e12, hI⟩ := hop22 h (xs (x3 + 1).toNatClampNeg) (xs (x3 + 2).toNatClampNeg) hI
  refine zw_callV (n := 2) (ci := 9) (q := zc_cl[9]) (As := [.int ((xs (x3 + 1).toNatClampNeg)), .int ((xs (x3 + 2).toNatClampNeg))]) (rest := []) S hK hw (zt_X9_leastNeed l g h P (xs (x3 + 1).toNatClampNeg) (xs (x3 + 2).toNatClampNeg) _ e1) zm_897 zm_898 zm_899 zq_X9_leastNeed zm_68 (by decide +kernel) ⟨Nat.le_of_ble_eq_true rfl, Nat.le_of_ble_eq_true rfl⟩ rfl rfl rfl (zi_X9_leastNeed e1) hl.1 rfl (by simp [zv_cat, zv_ci, zv_cj]) zd_L_law_1088 ⟨(by show cells + (17 : Nat) ≤ (600000 : Nat); omega), (by show slots + (680 : Nat) ≤ (7302250 : Nat); omega)⟩ (fun H locs hw => ?_)
  replace hw : zc_W g r1.1 H locs := hw
  refine W.widen (k := (cells + 17)) (n := (slots + 680)) (Nat.le_refl _) (Nat.le_refl _) ?_
  refine zl_aload_n hx hb zd_L_law_1091 rfl (lv_at hl 2 rfl) ?_
  refine zl_aload_n hx hb zd_L_law_1092 rfl (lv_at hl 0 rfl) ?_
  refine lv_iload_n hx hb zd_L_law_1093 rfl (lv_at hl 3 rfl) ?_
  refine lv_iconst (v := 1) hx hb zd_L_law_1094 (by decide) ?_
  refine lv_iadd hx hb zd_L_law_1095 ?_
  refine zl_sld S hw hX hz hH hbl (zl_in e3 hi7 hL 1 (by decide)) zd_L_law_1096 ?_
  refine zl_aload_n hx hb zd_L_law_1097 rfl (lv_at hl 0 rfl) ?_
  refine lv_iload_n hx hb zd_L_law_1098 rfl (lv_at hl 3 rfl) ?_
  refine lv_iconst (v := 2) hx hb zd_L_law_1099 (by decide) ?_
  refine lv_iadd hx hb zd_L_law_1100 ?_
  refine zl_sld S hw hX hz hH hbl (zl_in e3 hi7 hL 2 (by decide)) zd_L_law_1101 ?_
  refine zw_callV (n := 2) (ci := 10) (q := zc_cl[10]) (As := [.int ((xs (x3 + 1).toNatClampNeg)), .int ((xs (x3 + 2).toNatClampNeg))]) (rest := [.int (r1.2)]) S hK hw (zt_X10_leastNeed l g r1.1 q (xs (x3 + 1).toNatClampNeg) (xs (x3 + 2).toNatClampNeg) _ e2) zm_1440 zm_1441 zm_1442 zq_X10_leastNeed zm_79 (by decide +kernel) ⟨Nat.le_of_ble_eq_true rfl, Nat.le_of_ble_eq_true rfl⟩ rfl rfl rfl (zi_X10_leastNeed e2) hl.1 rfl (by simp [zv_cat, zv_ci, zv_cj]) zd_L_law_1102 ⟨(by show (cells + 17) + (0 : Nat) ≤ (600000 : Nat); omega), (by show (slots + 680) + (0 : Nat) ≤ (7302250 : Nat); omega)⟩ (fun H locs hw => ?_)
  replace hw : zc_W g r2.1 H locs := hw
  refine W.widen (k := ((cells + 17) + 0)) (n := ((slots + 680) + 0)) (Nat.le_refl _) (Nat.le_refl _) ?_
  refine lv_icmp_eq (tgt := 1469) hx hb zd_L_law_1105 (by decide) (fun _ => ?_) (fun c9 => absurd e12 c9)
  exact hnext r2.1 _ _ _ _ _ hw hI hl (by omega) (by omega)
set_option maxHeartbeats 4000000 in
set_option maxRecDepth 20000 in
theorem zl_case23 {p : Program} {e : Env} {s : State} {m : MethodId} {below : List Frame} {meth : Method} {c : Code} (l : Launch) {b L : Nat} {xs : Nat → Int32} (hL : L ≤ 3584) (g : zc_G) (P q : Nat) (Inv : zc_H → Prop) (S : CallFix p m c code 4 s #[Value.ref b] (.initialized RL :: zc_T) RL) (hK : zc_K g s) (hX : va_X b L xs s s.heap) (hz : g.2.2.1.1 = s.heap.size) (hH : g.2.2.1.2 = s.heap) (hbl : b < s.heap.size) {i : Nat} {x3 : Int32} (e3 : x3 = nI (7 * i)) (hi7 : 7 * i + 7 ≤ L) {h : zc_H} {H : Heap} {locs : List Loc} {ls : Array Slot} {cells slots : Nat} (hw : zc_W g h H locs) (hI : Inv h) (hl : lv_has ls 4 [(0, va_rf (some b)), (1, va_rf (some P)), (2, va_rf (some q)), (3, .int x3)]) (hcl : cells + 600 ≤ 600000) (hsl : slots + 24000 ≤ 7302250) (hop23 : zl_op23 Inv P q) (hnext : ∀ (h : zc_H) (H : Heap) (locs : List Loc) (ls : Array Slot) (cells1 slots1 : Nat), zc_W g h H locs → Inv h → lv_has ls 4 [(0, va_rf (some b)), (1, va_rf (some P)), (2, va_rf (some q)), (3, .int x3)] → cells1 ≤ cells + 289 → slots1 ≤ slots + 11560 → W p l e room_1 s m #[Value.ref b] below meth c H locs cells1 slots1 (lw_Z below #[Value.ref b] s) (F0 m 1469 ls [])) : W p l e room_1 s m #[Value.ref b] below meth c H locs cells slots (lw_Z below #[Value.ref b] s) (F0 m 1110 ls []) := by
  have hx := S.1
  have hb := S.2.1
  refine zl_aload_n hx hb zd_L_law_1110 rfl (lv_at hl 1 rfl) ?_
  refine zl_aload_n hx hb zd_L_law_1111 rfl (lv_at hl 0 rfl) ?_
  refine lv_iload_n hx hb zd_L_law_1112 rfl (lv_at hl 3 rfl) ?_
  refine lv_iconst (v := 1) hx hb zd_L_law_1113 (by decide) ?_
  refine lv_iadd hx hb zd_L_law_1114 ?_
  refine zl_sld S hw hX hz hH hbl (zl_in e3 hi7 hL 1 (by decide)) zd_L_law_1115 ?_
  refine zl_aload_n hx hb zd_L_law_1116 rfl (lv_at hl 0 rfl) ?_
  refine lv_iload_n hx hb zd_L_law_1117 rfl (lv_at hl 3 rfl) ?_
  refine lv_iconst (v := 2) hx hb zd_L_law_1118 (by decide) ?_
  refine lv_iadd hx hb zd_L_law_1119 ?_
  refine zl_sld S hw hX hz hH hbl (zl_in e3 hi7 hL 2 (by decide)) zd_L_law_1120 ?_
  obtain ⟨r1, r2, e1, e2, e12, hI⟩ := hop23 h (xs (x3 + 1).toNatClampNeg) (xs (x3 + 2).toNatClampNeg) hI
  refine zw_callV (n := 2) (ci := 9) (q := zc_cl[9]) (As := [.int ((xs (x3 + 1).toNatClampNeg)), .int ((xs (x3 + 2).toNatClampNeg))]) (rest := []) S hK hw (zt_X9_fitting l g h P (xs (x3 + 1).toNatClampNeg) (xs (x3 + 2).toNatClampNeg) _ e1) zm_903 zm_904 zm_905 zq_X9_fitting zm_68 (by decide +kernel) ⟨Nat.le_of_ble_eq_true rfl, Nat.le_of_ble_eq_true rfl⟩ rfl rfl rfl (zi_X9_fitting e1) hl.1 rfl (by simp [zv_cat, zv_ci, zv_cj]) zd_L_law_1121 ⟨(by show cells + (136 : Nat) ≤ (600000 : Nat); omega), (by show slots + (5440 : Nat) ≤ (7302250 : Nat); omega)⟩ (fun H locs hw => ?_)
  replace hw : zc_W g r1.1 H locs := hw
  refine W.widen (k := (cells + 136)) (n := (slots + 5440)) (Nat.le_refl _) (Nat.le_refl _) ?_
  refine zl_aload_n hx hb zd_L_law_1124 rfl (lv_at hl 2 rfl) ?_
  refine zl_aload_n hx hb zd_L_law_1125 rfl (lv_at hl 0 rfl) ?_
  refine lv_iload_n hx hb zd_L_law_1126 rfl (lv_at hl 3 rfl) ?_
  refine lv_iconst (v := 1) hx hb zd_L_law_1127 (by decide) ?_
  refine lv_iadd hx hb zd_L_law_1128 ?_
  refine zl_sld S hw hX hz hH hbl (zl_in e3 hi7 hL 1 (by decide)) zd_L_law_1129 ?_
  refine zl_aload_n hx hb zd_L_law_1130 rfl (lv_at hl 0 rfl) ?_
  refine lv_iload_n hx hb zd_L_law_1131 rfl (lv_at hl 3 rfl) ?_
  refine lv_iconst (v := 2) hx hb zd_L_law_1132 (by decide) ?_
  refine lv_iadd hx hb zd_L_law_1133 ?_
  refine zl_sld S hw hX hz hH hbl (zl_in e3 hi7 hL 2 (by decide)) zd_L_law_1134 ?_
  refine zw_callV (n := 2) (ci := 10) (q := zc_cl[10]) (As := [.int ((xs (x3 + 1).toNatClampNeg)), .int ((xs (x3 + 2).toNatClampNeg))]) (rest := [.int (r1.2)]) S hK hw (zt_X10_fitting l g r1.1 q (xs (x3 + 1).toNatClampNeg) (xs (x3 + 2).toNatClampNeg) _ e2) zm_1444 zm_1445 zm_1446 zq_X10_fitting zm_79 (by decide +kernel) ⟨Nat.le_of_ble_eq_true rfl, Nat.le_of_ble_eq_true rfl⟩ rfl rfl rfl (zi_X10_fitting e2) hl.1 rfl (by simp [zv_cat, zv_ci, zv_cj]) zd_L_law_1135 ⟨(by show (cells + 136) + (0 : Nat) ≤ (600000 : Nat); omega), (by show (slots + 5440) + (0 : Nat) ≤ (7302250 : Nat); omega)⟩ (fun H locs hw => ?_)
  replace hw : zc_W g r2.1 H locs := hw
  refine W.widen (k := ((cells + 136) + 0)) (n := ((slots + 5440) + 0)) (Nat.le_refl _) (Nat.le_refl _) ?_
  refine lv_icmp_eq (tgt := 1469) hx hb zd_L_law_1138 (by decide) (fun _ => ?_) (fun c9 => absurd e12 c9)
  exact hnext r2.1 _ _ _ _ _ hw hI hl (by omega) (by omega)
set_option maxHeartbeats 4000000 in
set_option maxRecDepth 20000 in
theorem zl_case24 {p : Program} {e : Env} {s : State} {m : MethodId} {below : List Frame} {meth : Method} {c : Code} (l : Launch) {b L : Nat} {xs : Nat → Int32} (hL : L ≤ 3584) (g : zc_G) (P q : Nat) (Inv : zc_H → Prop) (S : CallFix p m c code 4 s #[Value.ref b] (.initialized RL :: zc_T) RL) (hK : zc_K g s) (hX : va_X b L xs s s.heap) (hz : g.2.2.1.1 = s.heap.size) (hH : g.2.2.1.2 = s.heap) (hbl : b < s.heap.size) {i : Nat} {x3 : Int32} (e3 : x3 = nI (7 * i)) (hi7 : 7 * i + 7 ≤ L) {h : zc_H} {H : Heap} {locs : List Loc} {ls : Array Slot} {cells slots : Nat} (hw : zc_W g h H locs) (hI : Inv h) (hl : lv_has ls 4 [(0, va_rf (some b)), (1, va_rf (some P)), (2, va_rf (some q)), (3, .int x3)]) (hcl : cells + 600 ≤ 600000) (hsl : slots + 24000 ≤ 7302250) (hop24 : zl_op24 Inv P q) (hnext : ∀ (h : zc_H) (H : Heap) (locs : List Loc) (ls : Array Slot) (cells1 slots1 : Nat), zc_W g h H locs → Inv h → lv_has ls 4 [(0, va_rf (some b)), (1, va_rf (some P)), (2, va_rf (some q)), (3, .int x3)] → cells1 ≤ cells + 289 → slots1 ≤ slots + 11560 → W p l e room_1 s m #[Value.ref b] below meth c H locs cells1 slots1 (lw_Z below #[Value.ref b] s) (F0 m 1469 ls [])) : W p l e room_1 s m #[Value.ref b] below meth c H locs cells slots (lw_Z below #[Value.ref b] s) (F0 m 1143 ls []) := by
  have hx := S.1
  have hb := S.2.1
  refine zl_aload_n hx hb zd_L_law_1143 rfl (lv_at hl 1 rfl) ?_
  refine zl_aload_n hx hb zd_L_law_1144 rfl (lv_at hl 0 rfl) ?_
  refine lv_iload_n hx hb zd_L_law_1145 rfl (lv_at hl 3 rfl) ?_
  refine lv_iconst (v := 1) hx hb zd_L_law_1146 (by decide) ?_
  refine lv_iadd hx hb zd_L_law_1147 ?_
  refine zl_sld S hw hX hz hH hbl (zl_in e3 hi7 hL 1 (by decide)) zd_L_law_1148 ?_
  refine zl_aload_n hx hb zd_L_law_1149 rfl (lv_at hl 0 rfl) ?_
  refine lv_iload_n hx hb zd_L_law_1150 rfl (lv_at hl 3 rfl) ?_
  refine lv_iconst (v := 2) hx hb zd_L_law_1151 (by decide) ?_
  refine lv_iadd hx hb zd_L_law_1152 ?_
  refine zl_sld S hw hX hz hH hbl (zl_in e3 hi7 hL 2 (by decide)) zd_L_law_1153 ?_
  obtain ⟨r1, r2, e1, e2, e12, hI⟩ := hop24 h (xs (x3 + 1).toNatClampNeg) (xs (x3 + 2).toNatClampNeg) hI
  refine zw_callV (n := 2) (ci := 9) (q := zc_cl[9]) (As := [.int ((xs (x3 + 1).toNatClampNeg)), .int ((xs (x3 + 2).toNatClampNeg))]) (rest := []) S hK hw (zt_X9_inOrder l g h P (xs (x3 + 1).toNatClampNeg) (xs (x3 + 2).toNatClampNeg) _ e1) zm_911 zm_912 zm_913 zq_X9_inOrder zm_68 (by decide +kernel) ⟨Nat.le_of_ble_eq_true rfl, Nat.le_of_ble_eq_true rfl⟩ rfl rfl rfl (zi_X9_inOrder e1) hl.1 rfl (by simp [zv_cat, zv_ci, zv_cj]) zd_L_law_1154 ⟨(by show cells + (289 : Nat) ≤ (600000 : Nat); omega), (by show slots + (11560 : Nat) ≤ (7302250 : Nat); omega)⟩ (fun H locs hw => ?_)
  replace hw : zc_W g r1.1 H locs := hw
  refine W.widen (k := (cells + 289)) (n := (slots + 11560)) (Nat.le_refl _) (Nat.le_refl _) ?_
  refine zl_aload_n hx hb zd_L_law_1157 rfl (lv_at hl 2 rfl) ?_
  refine zl_aload_n hx hb zd_L_law_1158 rfl (lv_at hl 0 rfl) ?_
  refine lv_iload_n hx hb zd_L_law_1159 rfl (lv_at hl 3 rfl) ?_
  refine lv_iconst (v := 1) hx hb zd_L_law_1160 (by decide) ?_
  refine lv_iadd hx hb zd_L_law_1161 ?_
  refine zl_sld S hw hX hz hH hbl (zl_in e3 hi7 hL 1 (by decide)) zd_L_law_1162 ?_
  refine zl_aload_n hx hb zd_L_law_1163 rfl (lv_at hl 0 rfl) ?_
  refine lv_iload_n hx hb zd_L_law_1164 rfl (lv_at hl 3 rfl) ?_
  refine lv_iconst (v := 2) hx hb zd_L_law_1165 (by decide) ?_
  refine lv_iadd hx hb zd_L_law_1166 ?_
  refine zl_sld S hw hX hz hH hbl (zl_in e3 hi7 hL 2 (by decide)) zd_L_law_1167 ?_
  refine zw_callV (n := 2) (ci := 10) (q := zc_cl[10]) (As := [.int ((xs (x3 + 1).toNatClampNeg)), .int ((xs (x3 + 2).toNatClampNeg))]) (rest := [.int (r1.2)]) S hK hw (zt_X10_inOrder l g r1.1 q (xs (x3 + 1).toNatClampNeg) (xs (x3 + 2).toNatClampNeg) _ e2) zm_1448 zm_1449 zm_1450 zq_X10_inOrder zm_79 (by decide +kernel) ⟨Nat.le_of_ble_eq_true rfl, Nat.le_of_ble_eq_true rfl⟩ rfl rfl rfl (zi_X10_inOrder e2) hl.1 rfl (by simp [zv_cat, zv_ci, zv_cj]) zd_L_law_1168 ⟨(by show (cells + 289) + (0 : Nat) ≤ (600000 : Nat); omega), (by show (slots + 11560) + (0 : Nat) ≤ (7302250 : Nat); omega)⟩ (fun H locs hw => ?_)
  replace hw : zc_W g r2.1 H locs := hw
  refine W.widen (k := ((cells + 289) + 0)) (n := ((slots + 11560) + 0)) (Nat.le_refl _) (Nat.le_refl _) ?_
  refine lv_icmp_eq (tgt := 1469) hx hb zd_L_law_1171 (by decide) (fun _ => ?_) (fun c9 => absurd e12 c9)
  exact hnext r2.1 _ _ _ _ _ hw hI hl (by omega) (by omega)
set_option maxHeartbeats 4000000 in
set_option maxRecDepth 20000 in
theorem zl_case25 {p : Program} {e : Env} {s : State} {m : MethodId} {below : List Frame} {meth : Method} {c : Code} (l : Launch) {b L : Nat} {xs : Nat → Int32} (hL : L ≤ 3584) (g : zc_G) (P q : Nat) (Inv : zc_H → Prop) (S : CallFix p m c code 4 s #[Value.ref b] (.initialized RL :: zc_T) RL) (hK : zc_K g s) (hX : va_X b L xs s s.heap) (hz : g.2.2.1.1 = s.heap.size) (hH : g.2.2.1.2 = s.heap) (hbl : b < s.heap.size) {i : Nat} {x3 : Int32} (e3 : x3 = nI (7 * i)) (hi7 : 7 * i + 7 ≤ L) {h : zc_H} {H : Heap} {locs : List Loc} {ls : Array Slot} {cells slots : Nat} (hw : zc_W g h H locs) (hI : Inv h) (hl : lv_has ls 4 [(0, va_rf (some b)), (1, va_rf (some P)), (2, va_rf (some q)), (3, .int x3)]) (hcl : cells + 600 ≤ 600000) (hsl : slots + 24000 ≤ 7302250) (hop25 : zl_op25 Inv P q) (hnext : ∀ (h : zc_H) (H : Heap) (locs : List Loc) (ls : Array Slot) (cells1 slots1 : Nat), zc_W g h H locs → Inv h → lv_has ls 4 [(0, va_rf (some b)), (1, va_rf (some P)), (2, va_rf (some q)), (3, .int x3)] → cells1 ≤ cells + 289 → slots1 ≤ slots + 11560 → W p l e room_1 s m #[Value.ref b] below meth c H locs cells1 slots1 (lw_Z below #[Value.ref b] s) (F0 m 1469 ls [])) : W p l e room_1 s m #[Value.ref b] below meth c H locs cells slots (lw_Z below #[Value.ref b] s) (F0 m 1176 ls []) := by
  have hx := S.1
  have hb := S.2.1
  refine zl_aload_n hx hb zd_L_law_1176 rfl (lv_at hl 1 rfl) ?_
  refine zl_aload_n hx hb zd_L_law_1177 rfl (lv_at hl 0 rfl) ?_
  refine lv_iload_n hx hb zd_L_law_1178 rfl (lv_at hl 3 rfl) ?_
  refine lv_iconst (v := 1) hx hb zd_L_law_1179 (by decide) ?_
  refine lv_iadd hx hb zd_L_law_1180 ?_
  refine zl_sld S hw hX hz hH hbl (zl_in e3 hi7 hL 1 (by decide)) zd_L_law_1181 ?_
  refine zl_aload_n hx hb zd_L_law_1182 rfl (lv_at hl 0 rfl) ?_
  refine lv_iload_n hx hb zd_L_law_1183 rfl (lv_at hl 3 rfl) ?_
  refine lv_iconst (v := 2) hx hb zd_L_law_1184 (by decide) ?_
  refine lv_iadd hx hb zd_L_law_1185 ?_
  refine zl_sld S hw hX hz hH hbl (zl_in e3 hi7 hL 2 (by decide)) zd_L_law_1186 ?_
  obtain ⟨r1, r2, e1, e2, e12, hI⟩ := hop25 h (xs (x3 + 1).toNatClampNeg) (xs (x3 + 2).toNatClampNeg) hI
  refine zw_callV (n := 2) (ci := 9) (q := zc_cl[9]) (As := [.int ((xs (x3 + 1).toNatClampNeg)), .int ((xs (x3 + 2).toNatClampNeg))]) (rest := []) S hK hw (zt_X9_who l g h P (xs (x3 + 1).toNatClampNeg) (xs (x3 + 2).toNatClampNeg) _ e1) zm_933 zm_934 zm_935 zq_X9_who zm_68 (by decide +kernel) ⟨Nat.le_of_ble_eq_true rfl, Nat.le_of_ble_eq_true rfl⟩ rfl rfl rfl (zi_X9_who e1) hl.1 rfl (by simp [zv_cat, zv_ci, zv_cj]) zd_L_law_1187 ⟨(by show cells + (289 : Nat) ≤ (600000 : Nat); omega), (by show slots + (11560 : Nat) ≤ (7302250 : Nat); omega)⟩ (fun H locs hw => ?_)
  replace hw : zc_W g r1.1 H locs := hw
  refine W.widen (k := (cells + 289)) (n := (slots + 11560)) (Nat.le_refl _) (Nat.le_refl _) ?_
  refine zl_aload_n hx hb zd_L_law_1190 rfl (lv_at hl 2 rfl) ?_
  refine zl_aload_n hx hb zd_L_law_1191 rfl (lv_at hl 0 rfl) ?_
  refine lv_iload_n hx hb zd_L_law_1192 rfl (lv_at hl 3 rfl) ?_
  refine lv_iconst (v := 1) hx hb zd_L_law_1193 (by decide) ?_
  refine lv_iadd hx hb zd_L_law_1194 ?_
  refine zl_sld S hw hX hz hH hbl (zl_in e3 hi7 hL 1 (by decide)) zd_L_law_1195 ?_
  refine zl_aload_n hx hb zd_L_law_1196 rfl (lv_at hl 0 rfl) ?_
  refine lv_iload_n hx hb zd_L_law_1197 rfl (lv_at hl 3 rfl) ?_
  refine lv_iconst (v := 2) hx hb zd_L_law_1198 (by decide) ?_
  refine lv_iadd hx hb zd_L_law_1199 ?_
  refine zl_sld S hw hX hz hH hbl (zl_in e3 hi7 hL 2 (by decide)) zd_L_law_1200 ?_
  refine zw_callV (n := 2) (ci := 10) (q := zc_cl[10]) (As := [.int ((xs (x3 + 1).toNatClampNeg)), .int ((xs (x3 + 2).toNatClampNeg))]) (rest := [.int (r1.2)]) S hK hw (zt_X10_who l g r1.1 q (xs (x3 + 1).toNatClampNeg) (xs (x3 + 2).toNatClampNeg) _ e2) zm_1456 zm_1457 zm_1458 zq_X10_who zm_79 (by decide +kernel) ⟨Nat.le_of_ble_eq_true rfl, Nat.le_of_ble_eq_true rfl⟩ rfl rfl rfl (zi_X10_who e2) hl.1 rfl (by simp [zv_cat, zv_ci, zv_cj]) zd_L_law_1201 ⟨(by show (cells + 289) + (0 : Nat) ≤ (600000 : Nat); omega), (by show (slots + 11560) + (0 : Nat) ≤ (7302250 : Nat); omega)⟩ (fun H locs hw => ?_)
  replace hw : zc_W g r2.1 H locs := hw
  refine W.widen (k := ((cells + 289) + 0)) (n := ((slots + 11560) + 0)) (Nat.le_refl _) (Nat.le_refl _) ?_
  refine lv_icmp_eq (tgt := 1469) hx hb zd_L_law_1204 (by decide) (fun _ => ?_) (fun c9 => absurd e12 c9)
  exact hnext r2.1 _ _ _ _ _ hw hI hl (by omega) (by omega)
set_option maxHeartbeats 4000000 in
set_option maxRecDepth 20000 in
theorem zl_case26 {p : Program} {e : Env} {s : State} {m : MethodId} {below : List Frame} {meth : Method} {c : Code} (l : Launch) {b L : Nat} {xs : Nat → Int32} (hL : L ≤ 3584) (g : zc_G) (P q : Nat) (Inv : zc_H → Prop) (S : CallFix p m c code 4 s #[Value.ref b] (.initialized RL :: zc_T) RL) (hK : zc_K g s) (hX : va_X b L xs s s.heap) (hz : g.2.2.1.1 = s.heap.size) (hH : g.2.2.1.2 = s.heap) (hbl : b < s.heap.size) {i : Nat} {x3 : Int32} (e3 : x3 = nI (7 * i)) (hi7 : 7 * i + 7 ≤ L) {h : zc_H} {H : Heap} {locs : List Loc} {ls : Array Slot} {cells slots : Nat} (hw : zc_W g h H locs) (hI : Inv h) (hl : lv_has ls 4 [(0, va_rf (some b)), (1, va_rf (some P)), (2, va_rf (some q)), (3, .int x3)]) (hcl : cells + 600 ≤ 600000) (hsl : slots + 24000 ≤ 7302250) (hop26 : zl_op26 Inv P q) (hnext : ∀ (h : zc_H) (H : Heap) (locs : List Loc) (ls : Array Slot) (cells1 slots1 : Nat), zc_W g h H locs → Inv h → lv_has ls 4 [(0, va_rf (some b)), (1, va_rf (some P)), (2, va_rf (some q)), (3, .int x3)] → cells1 ≤ cells + 289 → slots1 ≤ slots + 11560 → W p l e room_1 s m #[Value.ref b] below meth c H locs cells1 slots1 (lw_Z below #[Value.ref b] s) (F0 m 1469 ls [])) : W p l e room_1 s m #[Value.ref b] below meth c H locs cells slots (lw_Z below #[Value.ref b] s) (F0 m 1209 ls []) := by
  have hx := S.1
  have hb := S.2.1
  refine zl_aload_n hx hb zd_L_law_1209 rfl (lv_at hl 1 rfl) ?_
  refine zl_aload_n hx hb zd_L_law_1210 rfl (lv_at hl 0 rfl) ?_
  refine lv_iload_n hx hb zd_L_law_1211 rfl (lv_at hl 3 rfl) ?_
  refine lv_iconst (v := 1) hx hb zd_L_law_1212 (by decide) ?_
  refine lv_iadd hx hb zd_L_law_1213 ?_
  refine zl_sld S hw hX hz hH hbl (zl_in e3 hi7 hL 1 (by decide)) zd_L_law_1214 ?_
  obtain ⟨r1, r2, e1, e2, e12, hI⟩ := hop26 h (xs (x3 + 1).toNatClampNeg) hI
  refine zw_callV (n := 1) (ci := 9) (q := zc_cl[9]) (As := [.int ((xs (x3 + 1).toNatClampNeg))]) (rest := []) S hK hw (zt_X9_covered l g h P (xs (x3 + 1).toNatClampNeg) _ e1) zm_946 zm_947 zm_948 zq_X9_covered zm_68 (by decide +kernel) ⟨Nat.le_of_ble_eq_true rfl, Nat.le_of_ble_eq_true rfl⟩ rfl rfl rfl (zi_X9_covered e1) hl.1 rfl (by simp [zv_cat, zv_ci, zv_cj]) zd_L_law_1215 ⟨(by show cells + (289 : Nat) ≤ (600000 : Nat); omega), (by show slots + (11560 : Nat) ≤ (7302250 : Nat); omega)⟩ (fun H locs hw => ?_)
  replace hw : zc_W g r1.1 H locs := hw
  refine W.widen (k := (cells + 289)) (n := (slots + 11560)) (Nat.le_refl _) (Nat.le_refl _) ?_
  refine zl_aload_n hx hb zd_L_law_1218 rfl (lv_at hl 2 rfl) ?_
  refine zl_aload_n hx hb zd_L_law_1219 rfl (lv_at hl 0 rfl) ?_
  refine lv_iload_n hx hb zd_L_law_1220 rfl (lv_at hl 3 rfl) ?_
  refine lv_iconst (v := 1) hx hb zd_L_law_1221 (by decide) ?_
  refine lv_iadd hx hb zd_L_law_1222 ?_
  refine zl_sld S hw hX hz hH hbl (zl_in e3 hi7 hL 1 (by decide)) zd_L_law_1223 ?_
  refine zw_callV (n := 1) (ci := 10) (q := zc_cl[10]) (As := [.int ((xs (x3 + 1).toNatClampNeg))]) (rest := [.int (r1.2)]) S hK hw (zt_X10_covered l g r1.1 q (xs (x3 + 1).toNatClampNeg) _ e2) zm_1464 zm_1465 zm_1466 zq_X10_covered zm_79 (by decide +kernel) ⟨Nat.le_of_ble_eq_true rfl, Nat.le_of_ble_eq_true rfl⟩ rfl rfl rfl (zi_X10_covered e2) hl.1 rfl (by simp [zv_cat, zv_ci, zv_cj]) zd_L_law_1224 ⟨(by show (cells + 289) + (0 : Nat) ≤ (600000 : Nat); omega), (by show (slots + 11560) + (0 : Nat) ≤ (7302250 : Nat); omega)⟩ (fun H locs hw => ?_)
  replace hw : zc_W g r2.1 H locs := hw
  refine W.widen (k := ((cells + 289) + 0)) (n := ((slots + 11560) + 0)) (Nat.le_refl _) (Nat.le_refl _) ?_
  refine lv_icmp_eq (tgt := 1469) hx hb zd_L_law_1227 (by decide) (fun _ => ?_) (fun c9 => absurd e12 c9)
  exact hnext r2.1 _ _ _ _ _ hw hI hl (by omega) (by omega)
set_option maxHeartbeats 4000000 in
set_option maxRecDepth 20000 in
theorem zl_case27 {p : Program} {e : Env} {s : State} {m : MethodId} {below : List Frame} {meth : Method} {c : Code} (l : Launch) {b L : Nat} {xs : Nat → Int32} (hL : L ≤ 3584) (g : zc_G) (P q : Nat) (Inv : zc_H → Prop) (S : CallFix p m c code 4 s #[Value.ref b] (.initialized RL :: zc_T) RL) (hK : zc_K g s) (hX : va_X b L xs s s.heap) (hz : g.2.2.1.1 = s.heap.size) (hH : g.2.2.1.2 = s.heap) (hbl : b < s.heap.size) {i : Nat} {x3 : Int32} (e3 : x3 = nI (7 * i)) (hi7 : 7 * i + 7 ≤ L) {h : zc_H} {H : Heap} {locs : List Loc} {ls : Array Slot} {cells slots : Nat} (hw : zc_W g h H locs) (hI : Inv h) (hl : lv_has ls 4 [(0, va_rf (some b)), (1, va_rf (some P)), (2, va_rf (some q)), (3, .int x3)]) (hcl : cells + 600 ≤ 600000) (hsl : slots + 24000 ≤ 7302250) (hop27 : zl_op27 Inv P q) (hnext : ∀ (h : zc_H) (H : Heap) (locs : List Loc) (ls : Array Slot) (cells1 slots1 : Nat), zc_W g h H locs → Inv h → lv_has ls 4 [(0, va_rf (some b)), (1, va_rf (some P)), (2, va_rf (some q)), (3, .int x3)] → cells1 ≤ cells + 289 → slots1 ≤ slots + 11560 → W p l e room_1 s m #[Value.ref b] below meth c H locs cells1 slots1 (lw_Z below #[Value.ref b] s) (F0 m 1469 ls [])) : W p l e room_1 s m #[Value.ref b] below meth c H locs cells slots (lw_Z below #[Value.ref b] s) (F0 m 1232 ls []) := by
  have hx := S.1
  have hb := S.2.1
  refine zl_aload_n hx hb zd_L_law_1232 rfl (lv_at hl 1 rfl) ?_
  refine zl_aload_n hx hb zd_L_law_1233 rfl (lv_at hl 0 rfl) ?_
  refine lv_iload_n hx hb zd_L_law_1234 rfl (lv_at hl 3 rfl) ?_
  refine lv_iconst (v := 1) hx hb zd_L_law_1235 (by decide) ?_
  refine lv_iadd hx hb zd_L_law_1236 ?_
  refine zl_sld S hw hX hz hH hbl (zl_in e3 hi7 hL 1 (by decide)) zd_L_law_1237 ?_
  refine zl_aload_n hx hb zd_L_law_1238 rfl (lv_at hl 0 rfl) ?_
  refine lv_iload_n hx hb zd_L_law_1239 rfl (lv_at hl 3 rfl) ?_
  refine lv_iconst (v := 2) hx hb zd_L_law_1240 (by decide) ?_
  refine lv_iadd hx hb zd_L_law_1241 ?_
  refine zl_sld S hw hX hz hH hbl (zl_in e3 hi7 hL 2 (by decide)) zd_L_law_1242 ?_
  refine zl_aload_n hx hb zd_L_law_1243 rfl (lv_at hl 0 rfl) ?_
  refine lv_iload_n hx hb zd_L_law_1244 rfl (lv_at hl 3 rfl) ?_
  refine lv_iconst (v := 3) hx hb zd_L_law_1245 (by decide) ?_
  refine lv_iadd hx hb zd_L_law_1246 ?_
  refine zl_sld S hw hX hz hH hbl (zl_in e3 hi7 hL 3 (by decide)) zd_L_law_1247 ?_
  obtain ⟨r1, r2, e1, e2, e12, hI⟩ := hop27 h (xs (x3 + 1).toNatClampNeg) (xs (x3 + 2).toNatClampNeg) (xs (x3 + 3).toNatClampNeg) hI
  refine zw_callV (n := 3) (ci := 9) (q := zc_cl[9]) (As := [.int ((xs (x3 + 1).toNatClampNeg)), .int ((xs (x3 + 2).toNatClampNeg)), .int ((xs (x3 + 3).toNatClampNeg))]) (rest := []) S hK hw (zt_X9_judge l g h P (xs (x3 + 1).toNatClampNeg) (xs (x3 + 2).toNatClampNeg) (xs (x3 + 3).toNatClampNeg) _ e1) zm_954 zm_955 zm_956 zq_X9_judge zm_68 (by decide +kernel) ⟨Nat.le_of_ble_eq_true rfl, Nat.le_of_ble_eq_true rfl⟩ rfl rfl rfl (zi_X9_judge e1) hl.1 rfl (by simp [zv_cat, zv_ci, zv_cj]) zd_L_law_1248 ⟨(by show cells + (17 : Nat) ≤ (600000 : Nat); omega), (by show slots + (680 : Nat) ≤ (7302250 : Nat); omega)⟩ (fun H locs hw => ?_)
  replace hw : zc_W g r1.1 H locs := hw
  refine W.widen (k := (cells + 17)) (n := (slots + 680)) (Nat.le_refl _) (Nat.le_refl _) ?_
  refine zl_aload_n hx hb zd_L_law_1251 rfl (lv_at hl 2 rfl) ?_
  refine zl_aload_n hx hb zd_L_law_1252 rfl (lv_at hl 0 rfl) ?_
  refine lv_iload_n hx hb zd_L_law_1253 rfl (lv_at hl 3 rfl) ?_
  refine lv_iconst (v := 1) hx hb zd_L_law_1254 (by decide) ?_
  refine lv_iadd hx hb zd_L_law_1255 ?_
  refine zl_sld S hw hX hz hH hbl (zl_in e3 hi7 hL 1 (by decide)) zd_L_law_1256 ?_
  refine zl_aload_n hx hb zd_L_law_1257 rfl (lv_at hl 0 rfl) ?_
  refine lv_iload_n hx hb zd_L_law_1258 rfl (lv_at hl 3 rfl) ?_
  refine lv_iconst (v := 2) hx hb zd_L_law_1259 (by decide) ?_
  refine lv_iadd hx hb zd_L_law_1260 ?_
  refine zl_sld S hw hX hz hH hbl (zl_in e3 hi7 hL 2 (by decide)) zd_L_law_1261 ?_
  refine zl_aload_n hx hb zd_L_law_1262 rfl (lv_at hl 0 rfl) ?_
  refine lv_iload_n hx hb zd_L_law_1263 rfl (lv_at hl 3 rfl) ?_
  refine lv_iconst (v := 3) hx hb zd_L_law_1264 (by decide) ?_
  refine lv_iadd hx hb zd_L_law_1265 ?_
  refine zl_sld S hw hX hz hH hbl (zl_in e3 hi7 hL 3 (by decide)) zd_L_law_1266 ?_
  refine zw_callV (n := 3) (ci := 10) (q := zc_cl[10]) (As := [.int ((xs (x3 + 1).toNatClampNeg)), .int ((xs (x3 + 2).toNatClampNeg)), .int ((xs (x3 + 3).toNatClampNeg))]) (rest := [.int (r1.2)]) S hK hw (zt_X10_judge l g r1.1 q (xs (x3 + 1).toNatClampNeg) (xs (x3 + 2).toNatClampNeg) (xs (x3 + 3).toNatClampNeg) _ e2) zm_1468 zm_1469 zm_1470 zq_X10_judge zm_79 (by decide +kernel) ⟨Nat.le_of_ble_eq_true rfl, Nat.le_of_ble_eq_true rfl⟩ rfl rfl rfl (zi_X10_judge e2) hl.1 rfl (by simp [zv_cat, zv_ci, zv_cj]) zd_L_law_1267 ⟨(by show (cells + 17) + (0 : Nat) ≤ (600000 : Nat); omega), (by show (slots + 680) + (0 : Nat) ≤ (7302250 : Nat); omega)⟩ (fun H locs hw => ?_)
  replace hw : zc_W g r2.1 H locs := hw
  refine W.widen (k := ((cells + 17) + 0)) (n := ((slots + 680) + 0)) (Nat.le_refl _) (Nat.le_refl _) ?_
  refine lv_icmp_eq (tgt := 1469) hx hb zd_L_law_1270 (by decide) (fun _ => ?_) (fun c9 => absurd e12 c9)
  exact hnext r2.1 _ _ _ _ _ hw hI hl (by omega) (by omega)
set_option maxHeartbeats 4000000 in
set_option maxRecDepth 20000 in
theorem zl_case28 {p : Program} {e : Env} {s : State} {m : MethodId} {below : List Frame} {meth : Method} {c : Code} (l : Launch) {b L : Nat} {xs : Nat → Int32} (hL : L ≤ 3584) (g : zc_G) (P q : Nat) (Inv : zc_H → Prop) (S : CallFix p m c code 4 s #[Value.ref b] (.initialized RL :: zc_T) RL) (hK : zc_K g s) (hX : va_X b L xs s s.heap) (hz : g.2.2.1.1 = s.heap.size) (hH : g.2.2.1.2 = s.heap) (hbl : b < s.heap.size) {i : Nat} {x3 : Int32} (e3 : x3 = nI (7 * i)) (hi7 : 7 * i + 7 ≤ L) {h : zc_H} {H : Heap} {locs : List Loc} {ls : Array Slot} {cells slots : Nat} (hw : zc_W g h H locs) (hI : Inv h) (hl : lv_has ls 4 [(0, va_rf (some b)), (1, va_rf (some P)), (2, va_rf (some q)), (3, .int x3)]) (hcl : cells + 600 ≤ 600000) (hsl : slots + 24000 ≤ 7302250) (hop28 : zl_op28 Inv P q) (hnext : ∀ (h : zc_H) (H : Heap) (locs : List Loc) (ls : Array Slot) (cells1 slots1 : Nat), zc_W g h H locs → Inv h → lv_has ls 4 [(0, va_rf (some b)), (1, va_rf (some P)), (2, va_rf (some q)), (3, .int x3)] → cells1 ≤ cells + 289 → slots1 ≤ slots + 11560 → W p l e room_1 s m #[Value.ref b] below meth c H locs cells1 slots1 (lw_Z below #[Value.ref b] s) (F0 m 1469 ls [])) : W p l e room_1 s m #[Value.ref b] below meth c H locs cells slots (lw_Z below #[Value.ref b] s) (F0 m 1275 ls []) := by
  have hx := S.1
  have hb := S.2.1
  refine zl_aload_n hx hb zd_L_law_1275 rfl (lv_at hl 1 rfl) ?_
  refine zl_aload_n hx hb zd_L_law_1276 rfl (lv_at hl 0 rfl) ?_
  refine lv_iload_n hx hb zd_L_law_1277 rfl (lv_at hl 3 rfl) ?_
  refine lv_iconst (v := 1) hx hb zd_L_law_1278 (by decide) ?_
  refine lv_iadd hx hb zd_L_law_1279 ?_
  refine zl_sld S hw hX hz hH hbl (zl_in e3 hi7 hL 1 (by decide)) zd_L_law_1280 ?_
  refine zl_aload_n hx hb zd_L_law_1281 rfl (lv_at hl 0 rfl) ?_
  refine lv_iload_n hx hb zd_L_law_1282 rfl (lv_at hl 3 rfl) ?_
  refine lv_iconst (v := 2) hx hb zd_L_law_1283 (by decide) ?_
  refine lv_iadd hx hb zd_L_law_1284 ?_
  refine zl_sld S hw hX hz hH hbl (zl_in e3 hi7 hL 2 (by decide)) zd_L_law_1285 ?_
  obtain ⟨r1, r2, e1, e2, e12, hI⟩ := hop28 h (xs (x3 + 1).toNatClampNeg) (xs (x3 + 2).toNatClampNeg) hI
  refine zw_callV (n := 2) (ci := 9) (q := zc_cl[9]) (As := [.int ((xs (x3 + 1).toNatClampNeg)), .int ((xs (x3 + 2).toNatClampNeg))]) (rest := []) S hK hw (zt_X9_again l g h P (xs (x3 + 1).toNatClampNeg) (xs (x3 + 2).toNatClampNeg) _ e1) zm_967 zm_968 zm_969 zq_X9_again zm_68 (by decide +kernel) ⟨Nat.le_of_ble_eq_true rfl, Nat.le_of_ble_eq_true rfl⟩ rfl rfl rfl (zi_X9_again e1) hl.1 rfl (by simp [zv_cat, zv_ci, zv_cj]) zd_L_law_1286 ⟨(by show cells + (38 : Nat) ≤ (600000 : Nat); omega), (by show slots + (907 : Nat) ≤ (7302250 : Nat); omega)⟩ (fun H locs hw => ?_)
  replace hw : zc_W g r1.1 H locs := hw
  refine W.widen (k := (cells + 38)) (n := (slots + 907)) (Nat.le_refl _) (Nat.le_refl _) ?_
  refine zl_aload_n hx hb zd_L_law_1289 rfl (lv_at hl 2 rfl) ?_
  refine zl_aload_n hx hb zd_L_law_1290 rfl (lv_at hl 0 rfl) ?_
  refine lv_iload_n hx hb zd_L_law_1291 rfl (lv_at hl 3 rfl) ?_
  refine lv_iconst (v := 1) hx hb zd_L_law_1292 (by decide) ?_
  refine lv_iadd hx hb zd_L_law_1293 ?_
  refine zl_sld S hw hX hz hH hbl (zl_in e3 hi7 hL 1 (by decide)) zd_L_law_1294 ?_
  refine zl_aload_n hx hb zd_L_law_1295 rfl (lv_at hl 0 rfl) ?_
  refine lv_iload_n hx hb zd_L_law_1296 rfl (lv_at hl 3 rfl) ?_
  refine lv_iconst (v := 2) hx hb zd_L_law_1297 (by decide) ?_
  refine lv_iadd hx hb zd_L_law_1298 ?_
  refine zl_sld S hw hX hz hH hbl (zl_in e3 hi7 hL 2 (by decide)) zd_L_law_1299 ?_
  refine zw_callV (n := 2) (ci := 10) (q := zc_cl[10]) (As := [.int ((xs (x3 + 1).toNatClampNeg)), .int ((xs (x3 + 2).toNatClampNeg))]) (rest := [.int (r1.2)]) S hK hw (zt_X10_again l g r1.1 q (xs (x3 + 1).toNatClampNeg) (xs (x3 + 2).toNatClampNeg) _ e2) zm_1472 zm_1473 zm_1474 zq_X10_again zm_79 (by decide +kernel) ⟨Nat.le_of_ble_eq_true rfl, Nat.le_of_ble_eq_true rfl⟩ rfl rfl rfl (zi_X10_again e2) hl.1 rfl (by simp [zv_cat, zv_ci, zv_cj]) zd_L_law_1300 ⟨(by show (cells + 38) + (0 : Nat) ≤ (600000 : Nat); omega), (by show (slots + 907) + (0 : Nat) ≤ (7302250 : Nat); omega)⟩ (fun H locs hw => ?_)
  replace hw : zc_W g r2.1 H locs := hw
  refine W.widen (k := ((cells + 38) + 0)) (n := ((slots + 907) + 0)) (Nat.le_refl _) (Nat.le_refl _) ?_
  refine lv_icmp_eq (tgt := 1469) hx hb zd_L_law_1303 (by decide) (fun _ => ?_) (fun c9 => absurd e12 c9)
  exact hnext r2.1 _ _ _ _ _ hw hI hl (by omega) (by omega)
set_option maxHeartbeats 4000000 in
set_option maxRecDepth 20000 in
theorem zl_case29 {p : Program} {e : Env} {s : State} {m : MethodId} {below : List Frame} {meth : Method} {c : Code} (l : Launch) {b L : Nat} {xs : Nat → Int32} (hL : L ≤ 3584) (g : zc_G) (P q : Nat) (Inv : zc_H → Prop) (S : CallFix p m c code 4 s #[Value.ref b] (.initialized RL :: zc_T) RL) (hK : zc_K g s) (hX : va_X b L xs s s.heap) (hz : g.2.2.1.1 = s.heap.size) (hH : g.2.2.1.2 = s.heap) (hbl : b < s.heap.size) {i : Nat} {x3 : Int32} (e3 : x3 = nI (7 * i)) (hi7 : 7 * i + 7 ≤ L) {h : zc_H} {H : Heap} {locs : List Loc} {ls : Array Slot} {cells slots : Nat} (hw : zc_W g h H locs) (hI : Inv h) (hl : lv_has ls 4 [(0, va_rf (some b)), (1, va_rf (some P)), (2, va_rf (some q)), (3, .int x3)]) (hcl : cells + 600 ≤ 600000) (hsl : slots + 24000 ≤ 7302250) (hop29 : zl_op29 Inv P q) (hnext : ∀ (h : zc_H) (H : Heap) (locs : List Loc) (ls : Array Slot) (cells1 slots1 : Nat), zc_W g h H locs → Inv h → lv_has ls 4 [(0, va_rf (some b)), (1, va_rf (some P)), (2, va_rf (some q)), (3, .int x3)] → cells1 ≤ cells + 289 → slots1 ≤ slots + 11560 → W p l e room_1 s m #[Value.ref b] below meth c H locs cells1 slots1 (lw_Z below #[Value.ref b] s) (F0 m 1469 ls [])) : W p l e room_1 s m #[Value.ref b] below meth c H locs cells slots (lw_Z below #[Value.ref b] s) (F0 m 1308 ls []) := by
  have hx := S.1
  have hb := S.2.1
  refine zl_aload_n hx hb zd_L_law_1308 rfl (lv_at hl 1 rfl) ?_
  refine zl_aload_n hx hb zd_L_law_1309 rfl (lv_at hl 0 rfl) ?_
  refine lv_iload_n hx hb zd_L_law_1310 rfl (lv_at hl 3 rfl) ?_
  refine lv_iconst (v := 1) hx hb zd_L_law_1311 (by decide) ?_
  refine lv_iadd hx hb zd_L_law_1312 ?_
  refine zl_sld S hw hX hz hH hbl (zl_in e3 hi7 hL 1 (by decide)) zd_L_law_1313 ?_
  obtain ⟨r1, r2, e1, e2, e12, hI⟩ := hop29 h (xs (x3 + 1).toNatClampNeg) hI
  refine zw_callV (n := 1) (ci := 9) (q := zc_cl[9]) (As := [.int ((xs (x3 + 1).toNatClampNeg))]) (rest := []) S hK hw (zt_X9_drift l g h P (xs (x3 + 1).toNatClampNeg) _ e1) zm_988 zm_989 zm_990 zq_X9_drift zm_68 (by decide +kernel) ⟨Nat.le_of_ble_eq_true rfl, Nat.le_of_ble_eq_true rfl⟩ rfl rfl rfl (zi_X9_drift e1) hl.1 rfl (by simp [zv_cat, zv_ci, zv_cj]) zd_L_law_1314 ⟨(by show cells + (64 : Nat) ≤ (600000 : Nat); omega), (by show slots + (2000 : Nat) ≤ (7302250 : Nat); omega)⟩ (fun H locs hw => ?_)
  replace hw : zc_W g r1.1 H locs := hw
  refine W.widen (k := (cells + 64)) (n := (slots + 2000)) (Nat.le_refl _) (Nat.le_refl _) ?_
  refine zl_aload_n hx hb zd_L_law_1317 rfl (lv_at hl 2 rfl) ?_
  refine zl_aload_n hx hb zd_L_law_1318 rfl (lv_at hl 0 rfl) ?_
  refine lv_iload_n hx hb zd_L_law_1319 rfl (lv_at hl 3 rfl) ?_
  refine lv_iconst (v := 1) hx hb zd_L_law_1320 (by decide) ?_
  refine lv_iadd hx hb zd_L_law_1321 ?_
  refine zl_sld S hw hX hz hH hbl (zl_in e3 hi7 hL 1 (by decide)) zd_L_law_1322 ?_
  refine zw_callV (n := 1) (ci := 10) (q := zc_cl[10]) (As := [.int ((xs (x3 + 1).toNatClampNeg))]) (rest := [.int (r1.2)]) S hK hw (zt_X10_drift l g r1.1 q (xs (x3 + 1).toNatClampNeg) _ e2) zm_1480 zm_1481 zm_1482 zq_X10_drift zm_79 (by decide +kernel) ⟨Nat.le_of_ble_eq_true rfl, Nat.le_of_ble_eq_true rfl⟩ rfl rfl rfl (zi_X10_drift e2) hl.1 rfl (by simp [zv_cat, zv_ci, zv_cj]) zd_L_law_1323 ⟨(by show (cells + 64) + (0 : Nat) ≤ (600000 : Nat); omega), (by show (slots + 2000) + (0 : Nat) ≤ (7302250 : Nat); omega)⟩ (fun H locs hw => ?_)
  replace hw : zc_W g r2.1 H locs := hw
  refine W.widen (k := ((cells + 64) + 0)) (n := ((slots + 2000) + 0)) (Nat.le_refl _) (Nat.le_refl _) ?_
  refine lv_icmp_eq (tgt := 1469) hx hb zd_L_law_1326 (by decide) (fun _ => ?_) (fun c9 => absurd e12 c9)
  exact hnext r2.1 _ _ _ _ _ hw hI hl (by omega) (by omega)
set_option maxHeartbeats 4000000 in
set_option maxRecDepth 20000 in
theorem zl_case30 {p : Program} {e : Env} {s : State} {m : MethodId} {below : List Frame} {meth : Method} {c : Code} (l : Launch) {b L : Nat} {xs : Nat → Int32} (hL : L ≤ 3584) (g : zc_G) (P q : Nat) (Inv : zc_H → Prop) (S : CallFix p m c code 4 s #[Value.ref b] (.initialized RL :: zc_T) RL) (hK : zc_K g s) (hX : va_X b L xs s s.heap) (hz : g.2.2.1.1 = s.heap.size) (hH : g.2.2.1.2 = s.heap) (hbl : b < s.heap.size) {i : Nat} {x3 : Int32} (e3 : x3 = nI (7 * i)) (hi7 : 7 * i + 7 ≤ L) {h : zc_H} {H : Heap} {locs : List Loc} {ls : Array Slot} {cells slots : Nat} (hw : zc_W g h H locs) (hI : Inv h) (hl : lv_has ls 4 [(0, va_rf (some b)), (1, va_rf (some P)), (2, va_rf (some q)), (3, .int x3)]) (hcl : cells + 600 ≤ 600000) (hsl : slots + 24000 ≤ 7302250) (hop30 : zl_op30 Inv P q) (hnext : ∀ (h : zc_H) (H : Heap) (locs : List Loc) (ls : Array Slot) (cells1 slots1 : Nat), zc_W g h H locs → Inv h → lv_has ls 4 [(0, va_rf (some b)), (1, va_rf (some P)), (2, va_rf (some q)), (3, .int x3)] → cells1 ≤ cells + 289 → slots1 ≤ slots + 11560 → W p l e room_1 s m #[Value.ref b] below meth c H locs cells1 slots1 (lw_Z below #[Value.ref b] s) (F0 m 1469 ls [])) : W p l e room_1 s m #[Value.ref b] below meth c H locs cells slots (lw_Z below #[Value.ref b] s) (F0 m 1331 ls []) := by
  have hx := S.1
  have hb := S.2.1
  refine zl_aload_n hx hb zd_L_law_1331 rfl (lv_at hl 1 rfl) ?_
  refine zl_aload_n hx hb zd_L_law_1332 rfl (lv_at hl 0 rfl) ?_
  refine lv_iload_n hx hb zd_L_law_1333 rfl (lv_at hl 3 rfl) ?_
  refine lv_iconst (v := 1) hx hb zd_L_law_1334 (by decide) ?_
  refine lv_iadd hx hb zd_L_law_1335 ?_
  refine zl_sld S hw hX hz hH hbl (zl_in e3 hi7 hL 1 (by decide)) zd_L_law_1336 ?_
  obtain ⟨r1, r2, e1, e2, e12, hI⟩ := hop30 h (xs (x3 + 1).toNatClampNeg) hI
  refine zw_callV (n := 1) (ci := 9) (q := zc_cl[9]) (As := [.int ((xs (x3 + 1).toNatClampNeg))]) (rest := []) S hK hw (zt_X9_seed l g h P (xs (x3 + 1).toNatClampNeg) _ e1) zm_1007 zm_1008 zm_1009 zq_X9_seed zm_68 (by decide +kernel) ⟨Nat.le_of_ble_eq_true rfl, Nat.le_of_ble_eq_true rfl⟩ rfl rfl rfl (zi_X9_seed e1) hl.1 rfl (by simp [zv_cat, zv_ci, zv_cj]) zd_L_law_1337 ⟨(by show cells + (0 : Nat) ≤ (600000 : Nat); omega), (by show slots + (0 : Nat) ≤ (7302250 : Nat); omega)⟩ (fun H locs hw => ?_)
  replace hw : zc_W g r1.1 H locs := hw
  refine W.widen (k := (cells + 0)) (n := (slots + 0)) (Nat.le_refl _) (Nat.le_refl _) ?_
  refine zl_aload_n hx hb zd_L_law_1340 rfl (lv_at hl 2 rfl) ?_
  refine zl_aload_n hx hb zd_L_law_1341 rfl (lv_at hl 0 rfl) ?_
  refine lv_iload_n hx hb zd_L_law_1342 rfl (lv_at hl 3 rfl) ?_
  refine lv_iconst (v := 1) hx hb zd_L_law_1343 (by decide) ?_
  refine lv_iadd hx hb zd_L_law_1344 ?_
  refine zl_sld S hw hX hz hH hbl (zl_in e3 hi7 hL 1 (by decide)) zd_L_law_1345 ?_
  refine zw_callV (n := 1) (ci := 10) (q := zc_cl[10]) (As := [.int ((xs (x3 + 1).toNatClampNeg))]) (rest := [.int (r1.2)]) S hK hw (zt_X10_seed l g r1.1 q (xs (x3 + 1).toNatClampNeg) _ e2) zm_1494 zm_1495 zm_1496 zq_X10_seed zm_79 (by decide +kernel) ⟨Nat.le_of_ble_eq_true rfl, Nat.le_of_ble_eq_true rfl⟩ rfl rfl rfl (zi_X10_seed e2) hl.1 rfl (by simp [zv_cat, zv_ci, zv_cj]) zd_L_law_1346 ⟨(by show (cells + 0) + (0 : Nat) ≤ (600000 : Nat); omega), (by show (slots + 0) + (0 : Nat) ≤ (7302250 : Nat); omega)⟩ (fun H locs hw => ?_)
  replace hw : zc_W g r2.1 H locs := hw
  refine W.widen (k := ((cells + 0) + 0)) (n := ((slots + 0) + 0)) (Nat.le_refl _) (Nat.le_refl _) ?_
  refine lv_icmp_eq (tgt := 1469) hx hb zd_L_law_1349 (by decide) (fun _ => ?_) (fun c9 => absurd e12 c9)
  exact hnext r2.1 _ _ _ _ _ hw hI hl (by omega) (by omega)
set_option maxHeartbeats 4000000 in
set_option maxRecDepth 20000 in
theorem zl_case31 {p : Program} {e : Env} {s : State} {m : MethodId} {below : List Frame} {meth : Method} {c : Code} (l : Launch) {b L : Nat} {xs : Nat → Int32} (hL : L ≤ 3584) (g : zc_G) (P q : Nat) (Inv : zc_H → Prop) (S : CallFix p m c code 4 s #[Value.ref b] (.initialized RL :: zc_T) RL) (hK : zc_K g s) (hX : va_X b L xs s s.heap) (hz : g.2.2.1.1 = s.heap.size) (hH : g.2.2.1.2 = s.heap) (hbl : b < s.heap.size) {i : Nat} {x3 : Int32} (e3 : x3 = nI (7 * i)) (hi7 : 7 * i + 7 ≤ L) {h : zc_H} {H : Heap} {locs : List Loc} {ls : Array Slot} {cells slots : Nat} (hw : zc_W g h H locs) (hI : Inv h) (hl : lv_has ls 4 [(0, va_rf (some b)), (1, va_rf (some P)), (2, va_rf (some q)), (3, .int x3)]) (hcl : cells + 600 ≤ 600000) (hsl : slots + 24000 ≤ 7302250) (hop31 : zl_op31 Inv P q) (hnext : ∀ (h : zc_H) (H : Heap) (locs : List Loc) (ls : Array Slot) (cells1 slots1 : Nat), zc_W g h H locs → Inv h → lv_has ls 4 [(0, va_rf (some b)), (1, va_rf (some P)), (2, va_rf (some q)), (3, .int x3)] → cells1 ≤ cells + 289 → slots1 ≤ slots + 11560 → W p l e room_1 s m #[Value.ref b] below meth c H locs cells1 slots1 (lw_Z below #[Value.ref b] s) (F0 m 1469 ls [])) : W p l e room_1 s m #[Value.ref b] below meth c H locs cells slots (lw_Z below #[Value.ref b] s) (F0 m 1354 ls []) := by
  have hx := S.1
  have hb := S.2.1
  refine zl_aload_n hx hb zd_L_law_1354 rfl (lv_at hl 1 rfl) ?_
  refine zl_aload_n hx hb zd_L_law_1355 rfl (lv_at hl 0 rfl) ?_
  refine lv_iload_n hx hb zd_L_law_1356 rfl (lv_at hl 3 rfl) ?_
  refine lv_iconst (v := 1) hx hb zd_L_law_1357 (by decide) ?_
  refine lv_iadd hx hb zd_L_law_1358 ?_
  refine zl_sld S hw hX hz hH hbl (zl_in e3 hi7 hL 1 (by decide)) zd_L_law_1359 ?_
  refine zl_aload_n hx hb zd_L_law_1360 rfl (lv_at hl 0 rfl) ?_
  refine lv_iload_n hx hb zd_L_law_1361 rfl (lv_at hl 3 rfl) ?_
  refine lv_iconst (v := 2) hx hb zd_L_law_1362 (by decide) ?_
  refine lv_iadd hx hb zd_L_law_1363 ?_
  refine zl_sld S hw hX hz hH hbl (zl_in e3 hi7 hL 2 (by decide)) zd_L_law_1364 ?_
  refine zl_aload_n hx hb zd_L_law_1365 rfl (lv_at hl 0 rfl) ?_
  refine lv_iload_n hx hb zd_L_law_1366 rfl (lv_at hl 3 rfl) ?_
  refine lv_iconst (v := 3) hx hb zd_L_law_1367 (by decide) ?_
  refine lv_iadd hx hb zd_L_law_1368 ?_
  refine zl_sld S hw hX hz hH hbl (zl_in e3 hi7 hL 3 (by decide)) zd_L_law_1369 ?_
  obtain ⟨r1, r2, e1, e2, e12, hI⟩ := hop31 h (xs (x3 + 1).toNatClampNeg) (xs (x3 + 2).toNatClampNeg) (xs (x3 + 3).toNatClampNeg) hI
  refine zw_callV (n := 3) (ci := 9) (q := zc_cl[9]) (As := [.int ((xs (x3 + 1).toNatClampNeg)), .int ((xs (x3 + 2).toNatClampNeg)), .int ((xs (x3 + 3).toNatClampNeg))]) (rest := []) S hK hw (zt_X9_act l g h P (xs (x3 + 1).toNatClampNeg) (xs (x3 + 2).toNatClampNeg) (xs (x3 + 3).toNatClampNeg) _ e1) zm_1011 zm_1012 zm_1013 zq_X9_act zm_68 (by decide +kernel) ⟨Nat.le_of_ble_eq_true rfl, Nat.le_of_ble_eq_true rfl⟩ rfl rfl rfl (zi_X9_act e1) hl.1 rfl (by simp [zv_cat, zv_ci, zv_cj]) zd_L_law_1370 ⟨(by show cells + (0 : Nat) ≤ (600000 : Nat); omega), (by show slots + (0 : Nat) ≤ (7302250 : Nat); omega)⟩ (fun H locs hw => ?_)
  replace hw : zc_W g r1.1 H locs := hw
  refine W.widen (k := (cells + 0)) (n := (slots + 0)) (Nat.le_refl _) (Nat.le_refl _) ?_
  refine zl_aload_n hx hb zd_L_law_1373 rfl (lv_at hl 2 rfl) ?_
  refine zl_aload_n hx hb zd_L_law_1374 rfl (lv_at hl 0 rfl) ?_
  refine lv_iload_n hx hb zd_L_law_1375 rfl (lv_at hl 3 rfl) ?_
  refine lv_iconst (v := 1) hx hb zd_L_law_1376 (by decide) ?_
  refine lv_iadd hx hb zd_L_law_1377 ?_
  refine zl_sld S hw hX hz hH hbl (zl_in e3 hi7 hL 1 (by decide)) zd_L_law_1378 ?_
  refine zl_aload_n hx hb zd_L_law_1379 rfl (lv_at hl 0 rfl) ?_
  refine lv_iload_n hx hb zd_L_law_1380 rfl (lv_at hl 3 rfl) ?_
  refine lv_iconst (v := 2) hx hb zd_L_law_1381 (by decide) ?_
  refine lv_iadd hx hb zd_L_law_1382 ?_
  refine zl_sld S hw hX hz hH hbl (zl_in e3 hi7 hL 2 (by decide)) zd_L_law_1383 ?_
  refine zl_aload_n hx hb zd_L_law_1384 rfl (lv_at hl 0 rfl) ?_
  refine lv_iload_n hx hb zd_L_law_1385 rfl (lv_at hl 3 rfl) ?_
  refine lv_iconst (v := 3) hx hb zd_L_law_1386 (by decide) ?_
  refine lv_iadd hx hb zd_L_law_1387 ?_
  refine zl_sld S hw hX hz hH hbl (zl_in e3 hi7 hL 3 (by decide)) zd_L_law_1388 ?_
  refine zw_callV (n := 3) (ci := 10) (q := zc_cl[10]) (As := [.int ((xs (x3 + 1).toNatClampNeg)), .int ((xs (x3 + 2).toNatClampNeg)), .int ((xs (x3 + 3).toNatClampNeg))]) (rest := [.int (r1.2)]) S hK hw (zt_X10_act l g r1.1 q (xs (x3 + 1).toNatClampNeg) (xs (x3 + 2).toNatClampNeg) (xs (x3 + 3).toNatClampNeg) _ e2) zm_1498 zm_1499 zm_1500 zq_X10_act zm_79 (by decide +kernel) ⟨Nat.le_of_ble_eq_true rfl, Nat.le_of_ble_eq_true rfl⟩ rfl rfl rfl (zi_X10_act e2) hl.1 rfl (by simp [zv_cat, zv_ci, zv_cj]) zd_L_law_1389 ⟨(by show (cells + 0) + (0 : Nat) ≤ (600000 : Nat); omega), (by show (slots + 0) + (0 : Nat) ≤ (7302250 : Nat); omega)⟩ (fun H locs hw => ?_)
  replace hw : zc_W g r2.1 H locs := hw
  refine W.widen (k := ((cells + 0) + 0)) (n := ((slots + 0) + 0)) (Nat.le_refl _) (Nat.le_refl _) ?_
  refine lv_icmp_eq (tgt := 1469) hx hb zd_L_law_1392 (by decide) (fun _ => ?_) (fun c9 => absurd e12 c9)
  exact hnext r2.1 _ _ _ _ _ hw hI hl (by omega) (by omega)
set_option maxHeartbeats 4000000 in
set_option maxRecDepth 20000 in
theorem zl_case32 {p : Program} {e : Env} {s : State} {m : MethodId} {below : List Frame} {meth : Method} {c : Code} (l : Launch) {b L : Nat} {xs : Nat → Int32} (hL : L ≤ 3584) (g : zc_G) (P q : Nat) (Inv : zc_H → Prop) (S : CallFix p m c code 4 s #[Value.ref b] (.initialized RL :: zc_T) RL) (hK : zc_K g s) (hX : va_X b L xs s s.heap) (hz : g.2.2.1.1 = s.heap.size) (hH : g.2.2.1.2 = s.heap) (hbl : b < s.heap.size) {i : Nat} {x3 : Int32} (e3 : x3 = nI (7 * i)) (hi7 : 7 * i + 7 ≤ L) {h : zc_H} {H : Heap} {locs : List Loc} {ls : Array Slot} {cells slots : Nat} (hw : zc_W g h H locs) (hI : Inv h) (hl : lv_has ls 4 [(0, va_rf (some b)), (1, va_rf (some P)), (2, va_rf (some q)), (3, .int x3)]) (hcl : cells + 600 ≤ 600000) (hsl : slots + 24000 ≤ 7302250) (hop32 : zl_op32 Inv P q) (hnext : ∀ (h : zc_H) (H : Heap) (locs : List Loc) (ls : Array Slot) (cells1 slots1 : Nat), zc_W g h H locs → Inv h → lv_has ls 4 [(0, va_rf (some b)), (1, va_rf (some P)), (2, va_rf (some q)), (3, .int x3)] → cells1 ≤ cells + 289 → slots1 ≤ slots + 11560 → W p l e room_1 s m #[Value.ref b] below meth c H locs cells1 slots1 (lw_Z below #[Value.ref b] s) (F0 m 1469 ls [])) : W p l e room_1 s m #[Value.ref b] below meth c H locs cells slots (lw_Z below #[Value.ref b] s) (F0 m 1397 ls []) := by
  have hx := S.1
  have hb := S.2.1
  refine zl_aload_n hx hb zd_L_law_1397 rfl (lv_at hl 1 rfl) ?_
  refine zl_aload_n hx hb zd_L_law_1398 rfl (lv_at hl 0 rfl) ?_
  refine lv_iload_n hx hb zd_L_law_1399 rfl (lv_at hl 3 rfl) ?_
  refine lv_iconst (v := 1) hx hb zd_L_law_1400 (by decide) ?_
  refine lv_iadd hx hb zd_L_law_1401 ?_
  refine zl_sld S hw hX hz hH hbl (zl_in e3 hi7 hL 1 (by decide)) zd_L_law_1402 ?_
  obtain ⟨r1, r2, e1, e2, e12, hI⟩ := hop32 h (xs (x3 + 1).toNatClampNeg) hI
  refine zw_callV (n := 1) (ci := 9) (q := zc_cl[9]) (As := [.int ((xs (x3 + 1).toNatClampNeg))]) (rest := []) S hK hw (zt_X9_trace l g h P (xs (x3 + 1).toNatClampNeg) _ e1) zm_1045 zm_1046 zm_1047 zq_X9_trace zm_68 (by decide +kernel) ⟨Nat.le_of_ble_eq_true rfl, Nat.le_of_ble_eq_true rfl⟩ rfl rfl rfl (zi_X9_trace e1) hl.1 rfl (by simp [zv_cat, zv_ci, zv_cj]) zd_L_law_1403 ⟨(by show cells + (0 : Nat) ≤ (600000 : Nat); omega), (by show slots + (0 : Nat) ≤ (7302250 : Nat); omega)⟩ (fun H locs hw => ?_)
  replace hw : zc_W g h H locs := hw
  refine W.widen (k := (cells + 0)) (n := (slots + 0)) (Nat.le_refl _) (Nat.le_refl _) ?_
  refine zl_aload_n hx hb zd_L_law_1406 rfl (lv_at hl 2 rfl) ?_
  refine zl_aload_n hx hb zd_L_law_1407 rfl (lv_at hl 0 rfl) ?_
  refine lv_iload_n hx hb zd_L_law_1408 rfl (lv_at hl 3 rfl) ?_
  refine lv_iconst (v := 1) hx hb zd_L_law_1409 (by decide) ?_
  refine lv_iadd hx hb zd_L_law_1410 ?_
  refine zl_sld S hw hX hz hH hbl (zl_in e3 hi7 hL 1 (by decide)) zd_L_law_1411 ?_
  refine zw_callV (n := 1) (ci := 10) (q := zc_cl[10]) (As := [.int ((xs (x3 + 1).toNatClampNeg))]) (rest := [.int (r1)]) S hK hw (zt_X10_trace l g h q (xs (x3 + 1).toNatClampNeg) _ e2) zm_1518 zm_1519 zm_1520 zq_X10_trace zm_79 (by decide +kernel) ⟨Nat.le_of_ble_eq_true rfl, Nat.le_of_ble_eq_true rfl⟩ rfl rfl rfl (zi_X10_trace e2) hl.1 rfl (by simp [zv_cat, zv_ci, zv_cj]) zd_L_law_1412 ⟨(by show (cells + 0) + (0 : Nat) ≤ (600000 : Nat); omega), (by show (slots + 0) + (0 : Nat) ≤ (7302250 : Nat); omega)⟩ (fun H locs hw => ?_)
  replace hw : zc_W g h H locs := hw
  refine W.widen (k := ((cells + 0) + 0)) (n := ((slots + 0) + 0)) (Nat.le_refl _) (Nat.le_refl _) ?_
  refine lv_icmp_eq (tgt := 1469) hx hb zd_L_law_1415 (by decide) (fun _ => ?_) (fun c9 => absurd e12 c9)
  exact hnext h _ _ _ _ _ hw hI hl (by omega) (by omega)
set_option maxHeartbeats 4000000 in
set_option maxRecDepth 20000 in
theorem zl_case33 {p : Program} {e : Env} {s : State} {m : MethodId} {below : List Frame} {meth : Method} {c : Code} (l : Launch) {b L : Nat} {xs : Nat → Int32} (hL : L ≤ 3584) (g : zc_G) (P q : Nat) (Inv : zc_H → Prop) (S : CallFix p m c code 4 s #[Value.ref b] (.initialized RL :: zc_T) RL) (hK : zc_K g s) (hX : va_X b L xs s s.heap) (hz : g.2.2.1.1 = s.heap.size) (hH : g.2.2.1.2 = s.heap) (hbl : b < s.heap.size) {i : Nat} {x3 : Int32} (e3 : x3 = nI (7 * i)) (hi7 : 7 * i + 7 ≤ L) {h : zc_H} {H : Heap} {locs : List Loc} {ls : Array Slot} {cells slots : Nat} (hw : zc_W g h H locs) (hI : Inv h) (hl : lv_has ls 4 [(0, va_rf (some b)), (1, va_rf (some P)), (2, va_rf (some q)), (3, .int x3)]) (hcl : cells + 600 ≤ 600000) (hsl : slots + 24000 ≤ 7302250) (hop33 : zl_op33 Inv P q) (hnext : ∀ (h : zc_H) (H : Heap) (locs : List Loc) (ls : Array Slot) (cells1 slots1 : Nat), zc_W g h H locs → Inv h → lv_has ls 4 [(0, va_rf (some b)), (1, va_rf (some P)), (2, va_rf (some q)), (3, .int x3)] → cells1 ≤ cells + 289 → slots1 ≤ slots + 11560 → W p l e room_1 s m #[Value.ref b] below meth c H locs cells1 slots1 (lw_Z below #[Value.ref b] s) (F0 m 1469 ls [])) : W p l e room_1 s m #[Value.ref b] below meth c H locs cells slots (lw_Z below #[Value.ref b] s) (F0 m 1420 ls []) := by
  have hx := S.1
  have hb := S.2.1
  refine zl_aload_n hx hb zd_L_law_1420 rfl (lv_at hl 1 rfl) ?_
  obtain ⟨r1, r2, e1, e2, e12, hI⟩ := hop33 h hI
  refine zw_callV (n := 0) (ci := 9) (q := zc_cl[9]) (As := []) (rest := []) S hK hw (zt_X9_image l g h P _ e1) zm_1053 zm_1054 zm_1055 zq_X9_image zm_68 (by decide +kernel) ⟨Nat.le_of_ble_eq_true rfl, Nat.le_of_ble_eq_true rfl⟩ rfl rfl rfl (zi_X9_image e1) hl.1 rfl (by simp [zv_cat, zv_ci, zv_cj]) zd_L_law_1421 ⟨(by show cells + (34 : Nat) ≤ (600000 : Nat); omega), (by show slots + (1360 : Nat) ≤ (7302250 : Nat); omega)⟩ (fun H locs hw => ?_)
  replace hw : zc_W g r1.1 H locs := hw
  refine W.widen (k := (cells + 34)) (n := (slots + 1360)) (Nat.le_refl _) (Nat.le_refl _) ?_
  refine zl_aload_n hx hb zd_L_law_1424 rfl (lv_at hl 2 rfl) ?_
  refine zw_callV (n := 0) (ci := 10) (q := zc_cl[10]) (As := []) (rest := [.int (r1.2)]) S hK hw (zt_X10_image l g r1.1 q _ e2) zm_1522 zm_1523 zm_1524 zq_X10_image zm_79 (by decide +kernel) ⟨Nat.le_of_ble_eq_true rfl, Nat.le_of_ble_eq_true rfl⟩ rfl rfl rfl (zi_X10_image e2) hl.1 rfl (by simp [zv_cat, zv_ci, zv_cj]) zd_L_law_1425 ⟨(by show (cells + 34) + (0 : Nat) ≤ (600000 : Nat); omega), (by show (slots + 1360) + (0 : Nat) ≤ (7302250 : Nat); omega)⟩ (fun H locs hw => ?_)
  replace hw : zc_W g r2.1 H locs := hw
  refine W.widen (k := ((cells + 34) + 0)) (n := ((slots + 1360) + 0)) (Nat.le_refl _) (Nat.le_refl _) ?_
  refine lv_icmp_eq (tgt := 1469) hx hb zd_L_law_1428 (by decide) (fun _ => ?_) (fun c9 => absurd e12 c9)
  exact hnext r2.1 _ _ _ _ _ hw hI hl (by omega) (by omega)
set_option maxHeartbeats 4000000 in
set_option maxRecDepth 20000 in
theorem zl_case34 {p : Program} {e : Env} {s : State} {m : MethodId} {below : List Frame} {meth : Method} {c : Code} (l : Launch) {b L : Nat} {xs : Nat → Int32} (hL : L ≤ 3584) (g : zc_G) (P q : Nat) (Inv : zc_H → Prop) (S : CallFix p m c code 4 s #[Value.ref b] (.initialized RL :: zc_T) RL) (hK : zc_K g s) (hX : va_X b L xs s s.heap) (hz : g.2.2.1.1 = s.heap.size) (hH : g.2.2.1.2 = s.heap) (hbl : b < s.heap.size) {i : Nat} {x3 : Int32} (e3 : x3 = nI (7 * i)) (hi7 : 7 * i + 7 ≤ L) {h : zc_H} {H : Heap} {locs : List Loc} {ls : Array Slot} {cells slots : Nat} (hw : zc_W g h H locs) (hI : Inv h) (hl : lv_has ls 4 [(0, va_rf (some b)), (1, va_rf (some P)), (2, va_rf (some q)), (3, .int x3)]) (hcl : cells + 600 ≤ 600000) (hsl : slots + 24000 ≤ 7302250) (hop34 : zl_op34 Inv P q) (hnext : ∀ (h : zc_H) (H : Heap) (locs : List Loc) (ls : Array Slot) (cells1 slots1 : Nat), zc_W g h H locs → Inv h → lv_has ls 4 [(0, va_rf (some b)), (1, va_rf (some P)), (2, va_rf (some q)), (3, .int x3)] → cells1 ≤ cells + 289 → slots1 ≤ slots + 11560 → W p l e room_1 s m #[Value.ref b] below meth c H locs cells1 slots1 (lw_Z below #[Value.ref b] s) (F0 m 1469 ls [])) : W p l e room_1 s m #[Value.ref b] below meth c H locs cells slots (lw_Z below #[Value.ref b] s) (F0 m 1433 ls []) := by
  have hx := S.1
  have hb := S.2.1
  refine zl_aload_n hx hb zd_L_law_1433 rfl (lv_at hl 1 rfl) ?_
  obtain ⟨r1, r2, e1, e2, e12, hI⟩ := hop34 h hI
  refine zw_callV (n := 0) (ci := 9) (q := zc_cl[9]) (As := []) (rest := []) S hK hw (zt_X9_restore l g h P _ e1) zm_1063 zm_1064 zm_1065 zq_X9_restore zm_68 (by decide +kernel) ⟨Nat.le_of_ble_eq_true rfl, Nat.le_of_ble_eq_true rfl⟩ rfl rfl rfl (zi_X9_restore e1) hl.1 rfl (by simp [zv_cat, zv_ci, zv_cj]) zd_L_law_1434 ⟨(by show cells + (34 : Nat) ≤ (600000 : Nat); omega), (by show slots + (1360 : Nat) ≤ (7302250 : Nat); omega)⟩ (fun H locs hw => ?_)
  replace hw : zc_W g r1.1 H locs := hw
  refine W.widen (k := (cells + 34)) (n := (slots + 1360)) (Nat.le_refl _) (Nat.le_refl _) ?_
  refine zl_aload_n hx hb zd_L_law_1437 rfl (lv_at hl 2 rfl) ?_
  refine zw_callV (n := 0) (ci := 10) (q := zc_cl[10]) (As := []) (rest := [.int (r1.2)]) S hK hw (zt_X10_restore l g r1.1 q _ e2) zm_1526 zm_1527 zm_1528 zq_X10_restore zm_79 (by decide +kernel) ⟨Nat.le_of_ble_eq_true rfl, Nat.le_of_ble_eq_true rfl⟩ rfl rfl rfl (zi_X10_restore e2) hl.1 rfl (by simp [zv_cat, zv_ci, zv_cj]) zd_L_law_1438 ⟨(by show (cells + 34) + (0 : Nat) ≤ (600000 : Nat); omega), (by show (slots + 1360) + (0 : Nat) ≤ (7302250 : Nat); omega)⟩ (fun H locs hw => ?_)
  replace hw : zc_W g r2.1 H locs := hw
  refine W.widen (k := ((cells + 34) + 0)) (n := ((slots + 1360) + 0)) (Nat.le_refl _) (Nat.le_refl _) ?_
  refine lv_icmp_eq (tgt := 1469) hx hb zd_L_law_1441 (by decide) (fun _ => ?_) (fun c9 => absurd e12 c9)
  exact hnext r2.1 _ _ _ _ _ hw hI hl (by omega) (by omega)
set_option maxHeartbeats 4000000 in
set_option maxRecDepth 20000 in
theorem zl_case35 {p : Program} {e : Env} {s : State} {m : MethodId} {below : List Frame} {meth : Method} {c : Code} (l : Launch) {b L : Nat} {xs : Nat → Int32} (hL : L ≤ 3584) (g : zc_G) (P q : Nat) (Inv : zc_H → Prop) (S : CallFix p m c code 4 s #[Value.ref b] (.initialized RL :: zc_T) RL) (hK : zc_K g s) (hX : va_X b L xs s s.heap) (hz : g.2.2.1.1 = s.heap.size) (hH : g.2.2.1.2 = s.heap) (hbl : b < s.heap.size) {i : Nat} {x3 : Int32} (e3 : x3 = nI (7 * i)) (hi7 : 7 * i + 7 ≤ L) {h : zc_H} {H : Heap} {locs : List Loc} {ls : Array Slot} {cells slots : Nat} (hw : zc_W g h H locs) (hI : Inv h) (hl : lv_has ls 4 [(0, va_rf (some b)), (1, va_rf (some P)), (2, va_rf (some q)), (3, .int x3)]) (hcl : cells + 600 ≤ 600000) (hsl : slots + 24000 ≤ 7302250) (hop35 : zl_op35 Inv P q) (hnext : ∀ (h : zc_H) (H : Heap) (locs : List Loc) (ls : Array Slot) (cells1 slots1 : Nat), zc_W g h H locs → Inv h → lv_has ls 4 [(0, va_rf (some b)), (1, va_rf (some P)), (2, va_rf (some q)), (3, .int x3)] → cells1 ≤ cells + 289 → slots1 ≤ slots + 11560 → W p l e room_1 s m #[Value.ref b] below meth c H locs cells1 slots1 (lw_Z below #[Value.ref b] s) (F0 m 1469 ls [])) : W p l e room_1 s m #[Value.ref b] below meth c H locs cells slots (lw_Z below #[Value.ref b] s) (F0 m 1446 ls []) := by
  have hx := S.1
  have hb := S.2.1
  refine zl_aload_n hx hb zd_L_law_1446 rfl (lv_at hl 1 rfl) ?_
  refine zl_aload_n hx hb zd_L_law_1447 rfl (lv_at hl 0 rfl) ?_
  refine lv_iload_n hx hb zd_L_law_1448 rfl (lv_at hl 3 rfl) ?_
  refine lv_iconst (v := 1) hx hb zd_L_law_1449 (by decide) ?_
  refine lv_iadd hx hb zd_L_law_1450 ?_
  refine zl_sld S hw hX hz hH hbl (zl_in e3 hi7 hL 1 (by decide)) zd_L_law_1451 ?_
  obtain ⟨r1, r2, e1, e2, e12, hI⟩ := hop35 h (xs (x3 + 1).toNatClampNeg) hI
  refine zw_callV (n := 1) (ci := 9) (q := zc_cl[9]) (As := [.int ((xs (x3 + 1).toNatClampNeg))]) (rest := []) S hK hw (zt_X9_status l g h P (xs (x3 + 1).toNatClampNeg) _ e1) zm_1067 zm_1068 zm_1069 zq_X9_status zm_68 (by decide +kernel) ⟨Nat.le_of_ble_eq_true rfl, Nat.le_of_ble_eq_true rfl⟩ rfl rfl rfl (zi_X9_status e1) hl.1 rfl (by simp [zv_cat, zv_ci, zv_cj]) zd_L_law_1452 ⟨(by show cells + (0 : Nat) ≤ (600000 : Nat); omega), (by show slots + (0 : Nat) ≤ (7302250 : Nat); omega)⟩ (fun H locs hw => ?_)
  replace hw : zc_W g h H locs := hw
  refine W.widen (k := (cells + 0)) (n := (slots + 0)) (Nat.le_refl _) (Nat.le_refl _) ?_
  refine zl_aload_n hx hb zd_L_law_1455 rfl (lv_at hl 2 rfl) ?_
  refine zl_aload_n hx hb zd_L_law_1456 rfl (lv_at hl 0 rfl) ?_
  refine lv_iload_n hx hb zd_L_law_1457 rfl (lv_at hl 3 rfl) ?_
  refine lv_iconst (v := 1) hx hb zd_L_law_1458 (by decide) ?_
  refine lv_iadd hx hb zd_L_law_1459 ?_
  refine zl_sld S hw hX hz hH hbl (zl_in e3 hi7 hL 1 (by decide)) zd_L_law_1460 ?_
  refine zw_callV (n := 1) (ci := 10) (q := zc_cl[10]) (As := [.int ((xs (x3 + 1).toNatClampNeg))]) (rest := [.int (r1)]) S hK hw (zt_X10_status l g h q (xs (x3 + 1).toNatClampNeg) _ e2) zm_1530 zm_1531 zm_1532 zq_X10_status zm_79 (by decide +kernel) ⟨Nat.le_of_ble_eq_true rfl, Nat.le_of_ble_eq_true rfl⟩ rfl rfl rfl (zi_X10_status e2) hl.1 rfl (by simp [zv_cat, zv_ci, zv_cj]) zd_L_law_1461 ⟨(by show (cells + 0) + (0 : Nat) ≤ (600000 : Nat); omega), (by show (slots + 0) + (0 : Nat) ≤ (7302250 : Nat); omega)⟩ (fun H locs hw => ?_)
  replace hw : zc_W g h H locs := hw
  refine W.widen (k := ((cells + 0) + 0)) (n := ((slots + 0) + 0)) (Nat.le_refl _) (Nat.le_refl _) ?_
  refine lv_icmp_eq (tgt := 1469) hx hb zd_L_law_1464 (by decide) (fun _ => ?_) (fun c9 => absurd e12 c9)
  exact hnext h _ _ _ _ _ hw hI hl (by omega) (by omega)
set_option maxHeartbeats 4000000 in
set_option maxRecDepth 20000 in
theorem zl_loop {p : Program} {e : Env} {s : State} {m : MethodId} {below : List Frame} {meth : Method} {c : Code} (l : Launch) {b L : Nat} {xs : Nat → Int32} (hL : L ≤ 3584) (g : zc_G) (P q : Nat) (Inv : zc_H → Prop) (S : CallFix p m c code 4 s #[Value.ref b] (.initialized RL :: zc_T) RL) (hK : zc_K g s) (hX : va_X b L xs s s.heap) (hz : g.2.2.1.1 = s.heap.size) (hH : g.2.2.1.2 = s.heap) (hbl : b < s.heap.size) (hr : meth.sig.returnType = ret) (hlk : meth.locks = false) (hop0 : zl_op0 Inv P q) (hop1 : zl_op1 Inv P q) (hop2 : zl_op2 Inv P q) (hop3 : zl_op3 Inv P q) (hop4 : zl_op4 Inv P q) (hop5 : zl_op5 Inv P q) (hop6 : zl_op6 Inv P q) (hop7 : zl_op7 Inv P q) (hop8 : zl_op8 Inv P q) (hop9 : zl_op9 Inv P q) (hop10 : zl_op10 Inv P q) (hop11 : zl_op11 Inv P q) (hop12 : zl_op12 Inv P q) (hop13 : zl_op13 Inv P q) (hop14 : zl_op14 Inv P q) (hop15 : zl_op15 Inv P q) (hop16 : zl_op16 Inv P q) (hop17 : zl_op17 Inv P q) (hop18 : zl_op18 Inv P q) (hop19 : zl_op19 Inv P q) (hop20 : zl_op20 Inv P q) (hop21 : zl_op21 Inv P q) (hop22 : zl_op22 Inv P q) (hop23 : zl_op23 Inv P q) (hop24 : zl_op24 Inv P q) (hop25 : zl_op25 Inv P q) (hop26 : zl_op26 Inv P q) (hop27 : zl_op27 Inv P q) (hop28 : zl_op28 Inv P q) (hop29 : zl_op29 Inv P q) (hop30 : zl_op30 Inv P q) (hop31 : zl_op31 Inv P q) (hop32 : zl_op32 Inv P q) (hop33 : zl_op33 Inv P q) (hop34 : zl_op34 Inv P q) (hop35 : zl_op35 Inv P q) : ∀ (n i : Nat) (x3 : Int32) (h : zc_H) (H : Heap) (locs : List Loc) (ls : Array Slot) (cells slots : Nat), x3 = nI (7 * i) → L + 7 ≤ 7 * i + 7 * n → 7 * i ≤ L + 6 → zc_W g h H locs → Inv h → lv_has ls 4 [(0, va_rf (some b)), (1, va_rf (some P)), (2, va_rf (some q)), (3, .int x3)] → cells ≤ 1000 + i * 289 → slots ≤ 10000 + i * 11560 → W p l e room_1 s m #[Value.ref b] below meth c H locs cells slots (lw_Z below #[Value.ref b] s) (F0 m 18 ls []) := by
  have hx := S.1
  have hb := S.2.1
  intro n
  induction n with
  | zero => intro i x3 h H locs ls cells slots e3 h1 h2; omega
  | succ n ih =>
    intro i x3 h H locs ls cells slots e3 h1 h2 hw hI hl hcl hsl
    refine lv_iload_n hx hb zd_L_law_18 rfl (lv_at hl 3 rfl) ?_
    refine zl_aload_n hx hb zd_L_law_19 rfl (lv_at hl 0 rfl) ?_
    refine zl_slen S hw hX hz hH hbl zd_L_law_20 ?_
    refine lv_bipush (v := 7) hx hb zd_L_law_21 (by decide) ?_
    refine lv_isub hx hb zd_L_law_23 ?_
    refine lv_icmp_gt (tgt := 1475) hx hb zd_L_law_24 (by decide) (fun c1 => ?_) (fun c1 => ?_)
    · refine lv_iconst (v := 1) hx hb zd_L_law_1475 (by decide) ?_
      refine va_forget (fun q hq => by rw [← hz]; exact hw.2.2.2.2.2 q hq) ?_
      refine W.widen (k := 600000) (n := 7302250) (by omega) (by omega) ?_
      exact lw_ret hx hb hr hlk zd_L_law_1476
    have hi7 : 7 * i + 7 ≤ L := zl_cond hL (by omega) (by rw [← e3]; exact c1)
    have hnext : ∀ (h : zc_H) (H : Heap) (locs : List Loc) (ls : Array Slot) (cells1 slots1 : Nat), zc_W g h H locs → Inv h → lv_has ls 4 [(0, va_rf (some b)), (1, va_rf (some P)), (2, va_rf (some q)), (3, .int x3)] → cells1 ≤ cells + 289 → slots1 ≤ slots + 11560 → W p l e room_1 s m #[Value.ref b] below meth c H locs cells1 slots1 (lw_Z below #[Value.ref b] s) (F0 m 1469 ls []) := by
      intro h H locs ls cells1 slots1 hw hI hl hc1 hs1
      refine lv_iinc (i := 3) (v := (x3 + 7)) (lv' := [(3, .int (x3 + 7)), (0, va_rf (some b)), (1, va_rf (some P)), (2, va_rf (some q))]) hx hb zd_L_law_1469 hl (k := 3) rfl (congrArg (_ + ·) (by decide)) (by decide) rfl (fun ls hl => ?_)
      refine lv_goto (tgt := 18) hx hb zd_L_law_1472 (by decide) ?_
      exact ih (i + 1) (x3 + 7) h H locs ls cells1 slots1 (by rw [e3]; exact nI_add (7 * i) 7) (by omega) (by omega) hw hI (lv_sub hl [1, 2, 3, 0] rfl) (by omega) (by omega)
    refine zl_aload_n hx hb zd_L_law_27 rfl (lv_at hl 0 rfl) ?_
    refine lv_iload_n hx hb zd_L_law_28 rfl (lv_at hl 3 rfl) ?_
    refine zl_sld S hw hX hz hH hbl (zl_in0 e3 hi7 hL) zd_L_law_29 ?_
    refine lv_bipush (v := 63) hx hb zd_L_law_30 (by decide) ?_
    refine lv_iand hx hb zd_L_law_32 ?_
    refine lv_topi (fun w ew => ?_)
    by_cases c10 : w = 0
    · subst c10
      refine lv_tableIn (off := 159) (tgt := 192) hx hb zd_L_law_33 (by decide) (by decide) (by decide) (by decide) ?_
      exact zl_case0 l hL g P q Inv S hK hX hz hH hbl e3 hi7 hw hI hl (by omega) (by omega) hop0 hnext
    have z10 : w.toInt ≠ 0 := fun h => c10 (Int32.toInt_inj.mp (h.trans (by decide)))
    by_cases c11 : w = 1
    · subst c11
      refine lv_tableIn (off := 202) (tgt := 235) hx hb zd_L_law_33 (by decide) (by decide) (by decide) (by decide) ?_
      exact zl_case1 l hL g P q Inv S hK hX hz hH hbl e3 hi7 hw hI hl (by omega) (by omega) hop1 hnext
    have z11 : w.toInt ≠ 1 := fun h => c11 (Int32.toInt_inj.mp (h.trans (by decide)))
    by_cases c12 : w = 2
    · subst c12
      refine lv_tableIn (off := 275) (tgt := 308) hx hb zd_L_law_33 (by decide) (by decide) (by decide) (by decide) ?_
      exact zl_case2 l hL g P q Inv S hK hX hz hH hbl e3 hi7 hw hI hl (by omega) (by omega) hop2 hnext
    have z12 : w.toInt ≠ 2 := fun h => c12 (Int32.toInt_inj.mp (h.trans (by decide)))
    by_cases c13 : w = 3
    · subst c13
      refine lv_tableIn (off := 338) (tgt := 371) hx hb zd_L_law_33 (by decide) (by decide) (by decide) (by decide) ?_
      exact zl_case3 l hL g P q Inv S hK hX hz hH hbl e3 hi7 hw hI hl (by omega) (by omega) hop3 hnext
    have z13 : w.toInt ≠ 3 := fun h => c13 (Int32.toInt_inj.mp (h.trans (by decide)))
    by_cases c14 : w = 4
    · subst c14
      refine lv_tableIn (off := 372) (tgt := 405) hx hb zd_L_law_33 (by decide) (by decide) (by decide) (by decide) ?_
      exact zl_case4 l hL g P q Inv S hK hX hz hH hbl e3 hi7 hw hI hl (by omega) (by omega) hop4 hnext
    have z14 : w.toInt ≠ 4 := fun h => c14 (Int32.toInt_inj.mp (h.trans (by decide)))
    by_cases c15 : w = 5
    · subst c15
      refine lv_tableIn (off := 405) (tgt := 438) hx hb zd_L_law_33 (by decide) (by decide) (by decide) (by decide) ?_
      exact zl_case5 l hL g P q Inv S hK hX hz hH hbl e3 hi7 hw hI hl (by omega) (by omega) hop5 hnext
    have z15 : w.toInt ≠ 5 := fun h => c15 (Int32.toInt_inj.mp (h.trans (by decide)))
    by_cases c16 : w = 6
    · subst c16
      refine lv_tableIn (off := 428) (tgt := 461) hx hb zd_L_law_33 (by decide) (by decide) (by decide) (by decide) ?_
      exact zl_case6 l hL g P q Inv S hK hX hz hH hbl e3 hi7 hw hI hl (by omega) (by omega) hop6 hnext
    have z16 : w.toInt ≠ 6 := fun h => c16 (Int32.toInt_inj.mp (h.trans (by decide)))
    by_cases c17 : w = 7
    · subst c17
      refine lv_tableIn (off := 461) (tgt := 494) hx hb zd_L_law_33 (by decide) (by decide) (by decide) (by decide) ?_
      exact zl_case7 l hL g P q Inv S hK hX hz hH hbl e3 hi7 hw hI hl (by omega) (by omega) hop7 hnext
    have z17 : w.toInt ≠ 7 := fun h => c17 (Int32.toInt_inj.mp (h.trans (by decide)))
    by_cases c18 : w = 8
    · subst c18
      refine lv_tableIn (off := 494) (tgt := 527) hx hb zd_L_law_33 (by decide) (by decide) (by decide) (by decide) ?_
      exact zl_case8 l hL g P q Inv S hK hX hz hH hbl e3 hi7 hw hI hl (by omega) (by omega) hop8 hnext
    have z18 : w.toInt ≠ 8 := fun h => c18 (Int32.toInt_inj.mp (h.trans (by decide)))
    by_cases c19 : w = 9
    · subst c19
      refine lv_tableIn (off := 507) (tgt := 540) hx hb zd_L_law_33 (by decide) (by decide) (by decide) (by decide) ?_
      exact zl_case9 l hL g P q Inv S hK hX hz hH hbl e3 hi7 hw hI hl (by omega) (by omega) hop9 hnext
    have z19 : w.toInt ≠ 9 := fun h => c19 (Int32.toInt_inj.mp (h.trans (by decide)))
    by_cases c20 : w = 10
    · subst c20
      refine lv_tableIn (off := 530) (tgt := 563) hx hb zd_L_law_33 (by decide) (by decide) (by decide) (by decide) ?_
      exact zl_case10 l hL g P q Inv S hK hX hz hH hbl e3 hi7 hw hI hl (by omega) (by omega) hop10 hnext
    have z20 : w.toInt ≠ 10 := fun h => c20 (Int32.toInt_inj.mp (h.trans (by decide)))
    by_cases c21 : w = 11
    · subst c21
      refine lv_tableIn (off := 573) (tgt := 606) hx hb zd_L_law_33 (by decide) (by decide) (by decide) (by decide) ?_
      exact zl_case11 l hL g P q Inv S hK hX hz hH hbl e3 hi7 hw hI hl (by omega) (by omega) hop11 hnext
    have z21 : w.toInt ≠ 11 := fun h => c21 (Int32.toInt_inj.mp (h.trans (by decide)))
    by_cases c22 : w = 12
    · subst c22
      refine lv_tableIn (off := 596) (tgt := 629) hx hb zd_L_law_33 (by decide) (by decide) (by decide) (by decide) ?_
      exact zl_case12 l hL g P q Inv S hK hX hz hH hbl e3 hi7 hw hI hl (by omega) (by omega) hop12 hnext
    have z22 : w.toInt ≠ 12 := fun h => c22 (Int32.toInt_inj.mp (h.trans (by decide)))
    by_cases c23 : w = 13
    · subst c23
      refine lv_tableIn (off := 629) (tgt := 662) hx hb zd_L_law_33 (by decide) (by decide) (by decide) (by decide) ?_
      exact zl_case13 l hL g P q Inv S hK hX hz hH hbl e3 hi7 hw hI hl (by omega) (by omega) hop13 hnext
    have z23 : w.toInt ≠ 13 := fun h => c23 (Int32.toInt_inj.mp (h.trans (by decide)))
    by_cases c24 : w = 14
    · subst c24
      refine lv_tableIn (off := 672) (tgt := 705) hx hb zd_L_law_33 (by decide) (by decide) (by decide) (by decide) ?_
      exact zl_case14 l hL g P q Inv S hK hX hz hH hbl e3 hi7 hw hI hl (by omega) (by omega) hop14 hnext
    have z24 : w.toInt ≠ 14 := fun h => c24 (Int32.toInt_inj.mp (h.trans (by decide)))
    by_cases c25 : w = 15
    · subst c25
      refine lv_tableIn (off := 715) (tgt := 748) hx hb zd_L_law_33 (by decide) (by decide) (by decide) (by decide) ?_
      exact zl_case15 l hL g P q Inv S hK hX hz hH hbl e3 hi7 hw hI hl (by omega) (by omega) hop15 hnext
    have z25 : w.toInt ≠ 15 := fun h => c25 (Int32.toInt_inj.mp (h.trans (by decide)))
    by_cases c26 : w = 16
    · subst c26
      refine lv_tableIn (off := 758) (tgt := 791) hx hb zd_L_law_33 (by decide) (by decide) (by decide) (by decide) ?_
      exact zl_case16 l hL g P q Inv S hK hX hz hH hbl e3 hi7 hw hI hl (by omega) (by omega) hop16 hnext
    have z26 : w.toInt ≠ 16 := fun h => c26 (Int32.toInt_inj.mp (h.trans (by decide)))
    by_cases c27 : w = 17
    · subst c27
      refine lv_tableIn (off := 801) (tgt := 834) hx hb zd_L_law_33 (by decide) (by decide) (by decide) (by decide) ?_
      exact zl_case17 l hL g P q Inv S hK hX hz hH hbl e3 hi7 hw hI hl (by omega) (by omega) hop17 hnext
    have z27 : w.toInt ≠ 17 := fun h => c27 (Int32.toInt_inj.mp (h.trans (by decide)))
    by_cases c28 : w = 18
    · subst c28
      refine lv_tableIn (off := 876) (tgt := 909) hx hb zd_L_law_33 (by decide) (by decide) (by decide) (by decide) ?_
      exact zl_case18 l hL g P q Inv S hK hX hz hH hbl e3 hi7 hw hI hl (by omega) (by omega) hop18 hnext
    have z28 : w.toInt ≠ 18 := fun h => c28 (Int32.toInt_inj.mp (h.trans (by decide)))
    by_cases c29 : w = 19
    · subst c29
      refine lv_tableIn (off := 909) (tgt := 942) hx hb zd_L_law_33 (by decide) (by decide) (by decide) (by decide) ?_
      exact zl_case19 l hL g P q Inv S hK hX hz hH hbl e3 hi7 hw hI hl (by omega) (by omega) hop19 hnext
    have z29 : w.toInt ≠ 19 := fun h => c29 (Int32.toInt_inj.mp (h.trans (by decide)))
    by_cases c30 : w = 20
    · subst c30
      refine lv_tableIn (off := 958) (tgt := 991) hx hb zd_L_law_33 (by decide) (by decide) (by decide) (by decide) ?_
      exact zl_case20 l hL g P q Inv S hK hX hz hH hbl e3 hi7 hw hI hl (by omega) (by omega) hop20 hnext
    have z30 : w.toInt ≠ 20 := fun h => c30 (Int32.toInt_inj.mp (h.trans (by decide)))
    by_cases c31 : w = 21
    · subst c31
      refine lv_tableIn (off := 1001) (tgt := 1034) hx hb zd_L_law_33 (by decide) (by decide) (by decide) (by decide) ?_
      exact zl_case21 l hL g P q Inv S hK hX hz hH hbl e3 hi7 hw hI hl (by omega) (by omega) hop21 hnext
    have z31 : w.toInt ≠ 21 := fun h => c31 (Int32.toInt_inj.mp (h.trans (by decide)))
    by_cases c32 : w = 22
    · subst c32
      refine lv_tableIn (off := 1044) (tgt := 1077) hx hb zd_L_law_33 (by decide) (by decide) (by decide) (by decide) ?_
      exact zl_case22 l hL g P q Inv S hK hX hz hH hbl e3 hi7 hw hI hl (by omega) (by omega) hop22 hnext
    have z32 : w.toInt ≠ 22 := fun h => c32 (Int32.toInt_inj.mp (h.trans (by decide)))
    by_cases c33 : w = 23
    · subst c33
      refine lv_tableIn (off := 1077) (tgt := 1110) hx hb zd_L_law_33 (by decide) (by decide) (by decide) (by decide) ?_
      exact zl_case23 l hL g P q Inv S hK hX hz hH hbl e3 hi7 hw hI hl (by omega) (by omega) hop23 hnext
    have z33 : w.toInt ≠ 23 := fun h => c33 (Int32.toInt_inj.mp (h.trans (by decide)))
    by_cases c34 : w = 24
    · subst c34
      refine lv_tableIn (off := 1110) (tgt := 1143) hx hb zd_L_law_33 (by decide) (by decide) (by decide) (by decide) ?_
      exact zl_case24 l hL g P q Inv S hK hX hz hH hbl e3 hi7 hw hI hl (by omega) (by omega) hop24 hnext
    have z34 : w.toInt ≠ 24 := fun h => c34 (Int32.toInt_inj.mp (h.trans (by decide)))
    by_cases c35 : w = 25
    · subst c35
      refine lv_tableIn (off := 1143) (tgt := 1176) hx hb zd_L_law_33 (by decide) (by decide) (by decide) (by decide) ?_
      exact zl_case25 l hL g P q Inv S hK hX hz hH hbl e3 hi7 hw hI hl (by omega) (by omega) hop25 hnext
    have z35 : w.toInt ≠ 25 := fun h => c35 (Int32.toInt_inj.mp (h.trans (by decide)))
    by_cases c36 : w = 26
    · subst c36
      refine lv_tableIn (off := 1176) (tgt := 1209) hx hb zd_L_law_33 (by decide) (by decide) (by decide) (by decide) ?_
      exact zl_case26 l hL g P q Inv S hK hX hz hH hbl e3 hi7 hw hI hl (by omega) (by omega) hop26 hnext
    have z36 : w.toInt ≠ 26 := fun h => c36 (Int32.toInt_inj.mp (h.trans (by decide)))
    by_cases c37 : w = 27
    · subst c37
      refine lv_tableIn (off := 1199) (tgt := 1232) hx hb zd_L_law_33 (by decide) (by decide) (by decide) (by decide) ?_
      exact zl_case27 l hL g P q Inv S hK hX hz hH hbl e3 hi7 hw hI hl (by omega) (by omega) hop27 hnext
    have z37 : w.toInt ≠ 27 := fun h => c37 (Int32.toInt_inj.mp (h.trans (by decide)))
    by_cases c38 : w = 28
    · subst c38
      refine lv_tableIn (off := 1242) (tgt := 1275) hx hb zd_L_law_33 (by decide) (by decide) (by decide) (by decide) ?_
      exact zl_case28 l hL g P q Inv S hK hX hz hH hbl e3 hi7 hw hI hl (by omega) (by omega) hop28 hnext
    have z38 : w.toInt ≠ 28 := fun h => c38 (Int32.toInt_inj.mp (h.trans (by decide)))
    by_cases c39 : w = 29
    · subst c39
      refine lv_tableIn (off := 1275) (tgt := 1308) hx hb zd_L_law_33 (by decide) (by decide) (by decide) (by decide) ?_
      exact zl_case29 l hL g P q Inv S hK hX hz hH hbl e3 hi7 hw hI hl (by omega) (by omega) hop29 hnext
    have z39 : w.toInt ≠ 29 := fun h => c39 (Int32.toInt_inj.mp (h.trans (by decide)))
    by_cases c40 : w = 30
    · subst c40
      refine lv_tableIn (off := 1298) (tgt := 1331) hx hb zd_L_law_33 (by decide) (by decide) (by decide) (by decide) ?_
      exact zl_case30 l hL g P q Inv S hK hX hz hH hbl e3 hi7 hw hI hl (by omega) (by omega) hop30 hnext
    have z40 : w.toInt ≠ 30 := fun h => c40 (Int32.toInt_inj.mp (h.trans (by decide)))
    by_cases c41 : w = 31
    · subst c41
      refine lv_tableIn (off := 1321) (tgt := 1354) hx hb zd_L_law_33 (by decide) (by decide) (by decide) (by decide) ?_
      exact zl_case31 l hL g P q Inv S hK hX hz hH hbl e3 hi7 hw hI hl (by omega) (by omega) hop31 hnext
    have z41 : w.toInt ≠ 31 := fun h => c41 (Int32.toInt_inj.mp (h.trans (by decide)))
    by_cases c42 : w = 32
    · subst c42
      refine lv_tableIn (off := 1364) (tgt := 1397) hx hb zd_L_law_33 (by decide) (by decide) (by decide) (by decide) ?_
      exact zl_case32 l hL g P q Inv S hK hX hz hH hbl e3 hi7 hw hI hl (by omega) (by omega) hop32 hnext
    have z42 : w.toInt ≠ 32 := fun h => c42 (Int32.toInt_inj.mp (h.trans (by decide)))
    by_cases c43 : w = 33
    · subst c43
      refine lv_tableIn (off := 1387) (tgt := 1420) hx hb zd_L_law_33 (by decide) (by decide) (by decide) (by decide) ?_
      exact zl_case33 l hL g P q Inv S hK hX hz hH hbl e3 hi7 hw hI hl (by omega) (by omega) hop33 hnext
    have z43 : w.toInt ≠ 33 := fun h => c43 (Int32.toInt_inj.mp (h.trans (by decide)))
    by_cases c44 : w = 34
    · subst c44
      refine lv_tableIn (off := 1400) (tgt := 1433) hx hb zd_L_law_33 (by decide) (by decide) (by decide) (by decide) ?_
      exact zl_case34 l hL g P q Inv S hK hX hz hH hbl e3 hi7 hw hI hl (by omega) (by omega) hop34 hnext
    have z44 : w.toInt ≠ 34 := fun h => c44 (Int32.toInt_inj.mp (h.trans (by decide)))
    by_cases c45 : w = 35
    · subst c45
      refine lv_tableIn (off := 1413) (tgt := 1446) hx hb zd_L_law_33 (by decide) (by decide) (by decide) (by decide) ?_
      exact zl_case35 l hL g P q Inv S hK hX hz hH hbl e3 hi7 hw hI hl (by omega) (by omega) hop35 hnext
    have z45 : w.toInt ≠ 35 := fun h => c45 (Int32.toInt_inj.mp (h.trans (by decide)))
    refine lv_tableOut (tgt := 1469) hx hb zd_L_law_33 (by omega) (by decide) ?_
    exact hnext h _ _ _ _ _ hw hI hl (by omega) (by omega)

