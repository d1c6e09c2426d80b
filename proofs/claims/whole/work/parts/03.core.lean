/-! the core: worlds as functions of addresses; a row for each instruction that touches them -/
def zc_nk : Cond → Bool
  | .methodLinkNest .. => true
  | .fieldLinkNest .. => true
  | .castable .. => true
  | .declares .. => true
  | _ => false
def zc_T : List Cond := lw_tbl.filter goodWord
def zc_N : List Cond := lw_tbl.filter zc_nk
theorem zc_in {w : Cond} (i : Nat) (h : lw_tbl[i]? = some w) (hg : goodWord w = true) : w ∈ zc_T := List.mem_filter.mpr ⟨List.mem_of_getElem? h, hg⟩
theorem zc_inN {w : Cond} (i : Nat) (h : lw_tbl[i]? = some w) (hg : zc_nk w = true) : w ∈ zc_N := List.mem_filter.mpr ⟨List.mem_of_getElem? h, hg⟩
theorem zc_goodT {w : Cond} (h : w ∈ zc_T) : goodWord w = true := (List.mem_filter.mp h).2
abbrev zc_ws (y : MethodName) (b : ByteArray) (n : Nat) (ret : Option FieldType) : List Cond := Cond.code y b n ret :: zc_T
theorem zc_gd {w0 : Cond} {y : MethodName} {b : ByteArray} {n : Nat} {ret : Option FieldType} (h : Cond.code y b n ret ∈ zc_T) : GoodIn (w0 :: zc_T) (zc_ws y b n ret) := by
  intro w hw
  rcases List.mem_cons.mp hw with rfl | hw
  · exact ⟨List.mem_cons_of_mem _ h, good_of_word (zc_goodT h)⟩
  · exact ⟨List.mem_cons_of_mem _ hw, good_of_word (zc_goodT hw)⟩
/-- the classes, by number -/
abbrev zc_cl : List vw_C := [(RX0, TX0, 2), (RX1, TX1, 5), (RX2, TX2, 5), (RX3, TX3, 6), (RX4, TX4, 5), (RX5, TX5, 3), (RX6, TX6, 7), (RX7, TX7, 5), (RX8, TX8, 9), (RX9, TX9, 11), (RX10, TX10, 41), (RJx4a65c, TJx4a65c, 3)]
/-- the cells by address; how many cells the heap has; the empty array of lists -/
abbrev zc_H : Type := (Nat → Option va_E) × Nat × Nat
/-- numbers of classes and slots; the arrays' classes; where the law's own cells begin, the heap at its start; three statics -/
abbrev zc_G : Type := va_G × (Nat → ClassId) × (Nat × Heap) × (Nat × Nat × Nat)
def zc_A (g : zc_G) : Nat → Prop := fun q => g.2.2.1.1 ≤ q
def zc_tys (g : zc_G) : List (ClassId × FieldType) := [(g.2.1 0, .int), (g.2.1 1, .long), (g.2.1 2, .boolean), (g.2.1 3, .object "LineRemarks$Shelf"), (g.2.1 4, .object "java/lang/Object")]
def zc_abv (j : Nat) : Int32 := [-1, 0, 0, 1, 0, 2, 3].getD j 0
def zc_bod (j : Nat) : Int32 := [10, 11, 12, 20, 0, 0, 0, 30, 0, 40, 0, 0, 51, 0, 50, 0, 0, 60, 70, 71, 0].getD j 0
def zc_st (g : zc_G) (U : State) : Prop :=
  va_Z "LineRemarks" "ABOVE" "[I" (.ref g.2.2.2.1) (zc_A g) U g.2.2.1.2 ∧ va_T .int g.2.2.2.1 7 (fun j => .int (zc_abv j)) (zc_A g) U g.2.2.1.2 ∧
  va_Z "LineRemarks$Moves" "BODIES" "[I" (.ref g.2.2.2.2.1) (zc_A g) U g.2.2.1.2 ∧ va_T .int g.2.2.2.2.1 21 (fun j => .int (zc_bod j)) (zc_A g) U g.2.2.1.2 ∧
  va_Z "java/util/ArrayList" "DEFAULTCAPACITY_EMPTY_ELEMENTDATA" "[Ljava/lang/Object;" (.ref g.2.2.2.2.2) (zc_A g) U g.2.2.1.2 ∧ va_T (.object "java/lang/Object") g.2.2.2.2.2 0 (fun _ => .null) (zc_A g) U g.2.2.1.2 ∧
  va_AO "LineRemarks$Shelf" U ∧ va_AO "java/lang/Object" U ∧ ∃ mi, va_Mi "[Ljava/lang/Object;" mi U
def zc_K (g : zc_G) (U : State) : Prop := va_K g.1 zc_cl (zc_tys g) U ∧ (∀ w ∈ zc_N, va_Nw w U) ∧ zc_st g U
def zc_at (g : zc_G) (q : Nat) (e : va_E) (H : Heap) : Prop := match e with
  | .inl x => x.1 < 5 ∧ H[q]? = some (vp_cell (g.2.1 x.1) x.2)
  | .inr o => va_at g.1 zc_cl (q, .inr o) H
def zc_W (g : zc_G) (h : zc_H) (H : Heap) (locs : List Loc) : Prop :=
  H.size = h.2.1 ∧ g.2.2.1.1 ≤ h.2.1 ∧ (∀ (q : Nat) (e : va_E), h.1 q = some e → g.2.2.1.1 ≤ q ∧ zc_at g q e H) ∧ (∀ q : Nat, q < g.2.2.1.1 → H[q]? = g.2.2.1.2[q]?) ∧ (g.2.2.1.2.size = g.2.2.1.1 ∧ h.2.2 = g.2.2.2.2.2) ∧ ∀ l ∈ locs, g.2.2.1.1 ≤ l.base
def zc_I (g : zc_G) (h : zc_H) (U : State) : Prop := zc_W g h U.heap [] ∧ zc_K g U
theorem zc_st.moved {g : zc_G} {u U : State} (hvm : u.vm.Alike U.vm) (h : zc_st g u) : zc_st g U := by
  obtain ⟨h1, h2, h3, h4, h5, h6, h8, h9, mi, h7⟩ := h
  exact ⟨h1.moved hvm, h2.moved hvm, h3.moved hvm, h4.moved hvm, h5.moved hvm, h6.moved hvm, h8.moved hvm, h9.moved hvm, mi, h7.moved hvm⟩
theorem zc_Nw {w : Cond} (hk : zc_nk w = true) {s U : State} (hW : s.WarmedH U.vm) (h : va_Nw w s) : va_Nw w U := by
  cases w <;> first
    | exact va_Nw.warmM hW h
    | exact va_Nw.warmF hW h
    | exact va_Nw.warmC hW h
    | exact va_Nw.warmD hW h
    | cases hk
theorem zc_K.warm {g : zc_G} {s U : State} (hW : s.WarmedH U.vm) (h : zc_K g s) : zc_K g U :=
  ⟨h.1.moved hW.alike, fun w hw => zc_Nw (List.mem_filter.mp hw).2 hW (h.2.1 w hw), h.2.2.moved hW.alike⟩
theorem zc_onT {w : Cond} (hk : zc_nk w = true) : w.onTables = true := by cases w <;> first | rfl | cases hk
theorem zc_K.same {g : zc_G} {s U : State} (hv : s.vm = U.vm) (h : zc_K g s) : zc_K g U :=
  ⟨h.1.moved (by rw [hv]; exact Vm.Alike.refl _), fun w hw => va_Nw.same (zc_onT (List.mem_filter.mp hw).2) hv (h.2.1 w hw), h.2.2.moved (by rw [hv]; exact Vm.Alike.refl _)⟩

theorem zc_bl {g : zc_G} {h : zc_H} {av : List Value} : FrameBlind (va_Pc av (zc_I g h)) := fun a U fr mk q => ⟨q.1, ⟨q.2.1, q.2.2.same (show U.vm = (U.calling fr mk a).vm from rfl)⟩⟩
/-- a method's contract: from h it comes to h2 with the answer ov, in the room rm -/
def zc_M (l : Launch) (g : zc_G) (y : MethodName) (b : ByteArray) (n : Nat) (ret : Option FieldType) (rm : Room) (h : zc_H) (av : List Value) (h2 : zc_H) (ov : Option Value) : Prop :=
  Met l y (zc_ws y b n ret) rm (va_Pc av (zc_I g h)) (fun _ _ oc t => oc = .returned ov ∧ zc_W g h2 t.heap []) rm.cells rm.slots (zc_A g)
/-! shallow steps -/
def zv_i : Value → Option Int32
  | .int x => some x
  | _ => none
def zv_r : Value → Option (Option Nat)
  | .null => some none
  | .ref a => some (some a)
  | _ => none
theorem zv_i_e {v : Value} {x : Int32} (h : zv_i v = some x) : v = .int x := by
  cases v <;> simp [zv_i] at h
  rw [h]
theorem zv_r_e {v : Value} {x : Option Nat} (h : zv_r v = some x) : v = va_rf x := by
  cases v <;> simp [zv_r] at h <;> subst h <;> rfl
theorem zv_cat (r : Option Nat) : (va_rf r).category = 1 := by cases r <;> rfl
def zf_is (h : zc_H) (q c : Nat) : Bool := match h.1 q with
  | some (.inr o) => o.1 == c
  | _ => false
def zf_g (h : zc_H) (q c k : Nat) : Option Value := match h.1 q with
  | some (.inr o) => if o.1 = c then o.2[k]? else none
  | _ => none
def zf_gi (h : zc_H) (q c k : Nat) : Option Int32 := (zf_g h q c k).bind zv_i
def zf_gr (h : zc_H) (q c k : Nat) : Option (Option Nat) := (zf_g h q c k).bind zv_r
def zf_up (h : zc_H) (q : Nat) (e : va_E) : zc_H := (va_up h.1 q (some e), h.2)
def zf_p (h : zc_H) (q c k : Nat) (v : Value) : Option zc_H := match h.1 q with
  | some (.inr o) => if o.1 = c ∧ k < o.2.length then some (zf_up h q (.inr (c, o.2.set k v))) else none
  | _ => none
def zf_pz (h : zc_H) (q c k : Nat) (x : Int32) : Option zc_H := if x = 0 ∨ x = 1 then zf_p h q c k (.int x) else none
def zf_ai (h : zc_H) (q t : Nat) (i : Int32) : Option Int32 := match h.1 q with
  | some (.inl (t', n, .inl f)) => if t' = t ∧ ¬ (i < 0 ∨ n ≤ i.toNatClampNeg) then some (f i.toNatClampNeg) else none
  | _ => none
def zf_aj (h : zc_H) (q : Nat) (i : Int32) : Option Int64 := match h.1 q with
  | some (.inl (t', n, .inr (.inl f))) => if t' = 1 ∧ ¬ (i < 0 ∨ n ≤ i.toNatClampNeg) then some (f i.toNatClampNeg) else none
  | _ => none
def zf_ar (h : zc_H) (q t : Nat) (i : Int32) : Option (Option Nat) := match h.1 q with
  | some (.inl (t', n, .inr (.inr (.inr (.inr f))))) => if t' = t ∧ ¬ (i < 0 ∨ n ≤ i.toNatClampNeg) then some (f i.toNatClampNeg) else none
  | _ => none
def zf_si (h : zc_H) (q t : Nat) (i x : Int32) : Option zc_H := match h.1 q with
  | some (.inl (t', n, .inl f)) => if t' = t ∧ ¬ (i < 0 ∨ n ≤ i.toNatClampNeg) then some (zf_up h q (.inl (t, n, .inl (va_up f i.toNatClampNeg x)))) else none
  | _ => none
def zf_sj (h : zc_H) (q : Nat) (i : Int32) (x : Int64) : Option zc_H := match h.1 q with
  | some (.inl (t', n, .inr (.inl f))) => if t' = 1 ∧ ¬ (i < 0 ∨ n ≤ i.toNatClampNeg) then some (zf_up h q (.inl (1, n, .inr (.inl (va_up f i.toNatClampNeg x))))) else none
  | _ => none
def zf_sr (h : zc_H) (q t c : Nat) (i : Int32) (x : Nat) : Option zc_H := match h.1 q with
  | some (.inl (t', n, .inr (.inr (.inr (.inr f))))) => if t' = t ∧ ¬ (i < 0 ∨ n ≤ i.toNatClampNeg) ∧ zf_is h x c = true then some (zf_up h q (.inl (t, n, .inr (.inr (.inr (.inr (va_up f i.toNatClampNeg (some x)))))))) else none
  | _ => none
def zf_len (h : zc_H) (q : Nat) : Option Int32 := if q = h.2.2 then some 0 else match h.1 q with
  | some (.inl x) => some (Int32.ofNat x.2.1)
  | _ => none
def zf_new (h : zc_H) (e : va_E) : zc_H := (va_up h.1 h.2.1 (some e), h.2.1 + 1, h.2.2)
theorem zo_b {α β : Type} {x : Option α} {f : α → Option β} {b : β} (h : x.bind f = some b) : ∃ a, x = some a ∧ f a = some b := Option.bind_eq_some_iff.mp h
theorem zo_g {p : Prop} {_ : Decidable p} {β : Type} {x : Option β} {b : β} (h : (if p then x else none) = some b) : p ∧ x = some b := by
  by_cases hp : p
  · rw [if_pos hp] at h; exact ⟨hp, h⟩
  · rw [if_neg hp] at h; cases h
theorem zo_n {p : Prop} {_ : Decidable p} {β : Type} {x : Option β} {b : β} (h : (if p then none else x) = some b) : ¬ p ∧ x = some b := by
  by_cases hp : p
  · rw [if_pos hp] at h; cases h
  · rw [if_neg hp] at h; exact ⟨hp, h⟩
