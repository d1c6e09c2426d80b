/-! rows: arrays, new cells, statics -/
section ZA
variable {p : Program} {l : Launch} {e : Env} {R : Room} {s : State} {m : MethodId} {args : Array Value} {below : List Frame} {meth : Method} {c : Code} {H : Heap} {locs : List Loc} {cells slots : Nat} {Q : State → Prop}
variable {cc : ByteArray} {pc nL : Nat} {ls : Array Slot} {rest : List Value} {own : String} {w0 : Cond} {g : zc_G} {h : zc_H} {index : Nat}
theorem zf_ai_e {h : zc_H} {q t : Nat} {i x : Int32} (hv : zf_ai h q t i = some x) : ∃ (n : Nat) (f : Nat → Int32), h.1 q = some (.inl (t, n, .inl f)) ∧ vp_in i n ∧ x = f i.toNatClampNeg := by
  unfold zf_ai at hv
  split at hv
  · rename_i t' n f ho
    obtain ⟨⟨h1, h2⟩, h3⟩ := zo_g hv
    subst h1
    exact ⟨n, f, ho, h2, (Option.some.inj h3).symm⟩
  · cases hv
theorem zf_aj_e {h : zc_H} {q : Nat} {i : Int32} {x : Int64} (hv : zf_aj h q i = some x) : ∃ (n : Nat) (f : Nat → Int64), h.1 q = some (.inl (1, n, .inr (.inl f))) ∧ vp_in i n ∧ x = f i.toNatClampNeg := by
  unfold zf_aj at hv
  split at hv
  · rename_i t' n f ho
    obtain ⟨⟨h1, h2⟩, h3⟩ := zo_g hv
    subst h1
    exact ⟨n, f, ho, h2, (Option.some.inj h3).symm⟩
  · cases hv
theorem zf_ar_e {h : zc_H} {q t : Nat} {i : Int32} {x : Option Nat} (hv : zf_ar h q t i = some x) : ∃ (n : Nat) (f : Nat → Option Nat), h.1 q = some (.inl (t, n, .inr (.inr (.inr (.inr f))))) ∧ vp_in i n ∧ x = f i.toNatClampNeg := by
  unfold zf_ar at hv
  split at hv
  · rename_i t' n f ho
    obtain ⟨⟨h1, h2⟩, h3⟩ := zo_g hv
    subst h1
    exact ⟨n, f, ho, h2, (Option.some.inj h3).symm⟩
  · cases hv
theorem zf_si_e {h h2 : zc_H} {q t : Nat} {i x : Int32} (hv : zf_si h q t i x = some h2) : ∃ (n : Nat) (f : Nat → Int32), h.1 q = some (.inl (t, n, .inl f)) ∧ vp_in i n ∧ h2 = zf_up h q (.inl (t, n, .inl (va_up f i.toNatClampNeg x))) := by
  unfold zf_si at hv
  split at hv
  · rename_i t' n f ho
    obtain ⟨⟨h1, h2⟩, h3⟩ := zo_g hv
    subst h1
    exact ⟨n, f, ho, h2, (Option.some.inj h3).symm⟩
  · cases hv
theorem zf_sj_e {h h2 : zc_H} {q : Nat} {i : Int32} {x : Int64} (hv : zf_sj h q i x = some h2) : ∃ (n : Nat) (f : Nat → Int64), h.1 q = some (.inl (1, n, .inr (.inl f))) ∧ vp_in i n ∧ h2 = zf_up h q (.inl (1, n, .inr (.inl (va_up f i.toNatClampNeg x)))) := by
  unfold zf_sj at hv
  split at hv
  · rename_i t' n f ho
    obtain ⟨⟨h1, h2⟩, h3⟩ := zo_g hv
    subst h1
    exact ⟨n, f, ho, h2, (Option.some.inj h3).symm⟩
  · cases hv
theorem zf_is_e {h : zc_H} {q c : Nat} (hv : zf_is h q c = true) : ∃ fs : List Value, h.1 q = some (.inr (c, fs)) := by
  unfold zf_is at hv
  split at hv
  · rename_i o ho
    exact ⟨o.2, by rw [ho, ← beq_iff_eq.mp hv]⟩
  · cases hv
theorem zf_sr_e {h h2 : zc_H} {q t c : Nat} {i : Int32} {x : Nat} (hv : zf_sr h q t c i x = some h2) : ∃ (n : Nat) (f : Nat → Option Nat) (fs : List Value), h.1 q = some (.inl (t, n, .inr (.inr (.inr (.inr f))))) ∧ vp_in i n ∧ h.1 x = some (.inr (c, fs)) ∧ h2 = zf_up h q (.inl (t, n, .inr (.inr (.inr (.inr (va_up f i.toNatClampNeg (some x))))))) := by
  unfold zf_sr at hv
  split at hv
  · rename_i t' n f ho
    obtain ⟨⟨h1, h2, h4⟩, h3⟩ := zo_g hv
    subst h1
    obtain ⟨fs, hfs⟩ := zf_is_e h4
    exact ⟨n, f, fs, ho, h2, hfs, (Option.some.inj h3).symm⟩
  · cases hv
theorem zf_len_e {h : zc_H} {q : Nat} {x : Int32} (hv : zf_len h q = some x) : (q = h.2.2 ∧ x = 0) ∨ ∃ (t : Nat) (a : vp_A), h.1 q = some (.inl (t, a)) ∧ x = Int32.ofNat a.1 := by
  unfold zf_len at hv
  split at hv
  · rename_i hq
    exact Or.inl ⟨hq, (Option.some.inj hv).symm⟩
  · split at hv
    · rename_i a ho
      exact Or.inr ⟨a.1, a.2, ho, (Option.some.inj hv).symm⟩
    · cases hv
theorem zc_tysA (g : zc_G) {t : Nat} (ht : t < 5) : ∃ ty, (zc_tys g)[t]? = some (g.2.1 t, ty) := by
  match t, ht with
  | 0, _ => exact ⟨_, rfl⟩
  | 1, _ => exact ⟨_, rfl⟩
  | 2, _ => exact ⟨_, rfl⟩
  | 3, _ => exact ⟨_, rfl⟩
  | 4, _ => exact ⟨_, rfl⟩
  | t + 5, h => omega
theorem zw_iald {a : Nat} {i x : Int32} (S : CallFix p m c cc nL s args (w0 :: zc_T) own) (hK : zc_K g s) (hw : zc_W g h H locs) (hv : zf_ai h a 0 i = some x) (hdg : decode cc pc = .ok (.iaload, 1))
    (kk : W p l e R s m args below meth c H locs cells slots Q (F0 m (pc + 1) ls (.int x :: rest))) : W p l e R s m args below meth c H locs cells slots Q (F0 m pc ls (.int i :: va_rf (some a) :: rest)) := by
  obtain ⟨n, f, h1, h2, rfl⟩ := zf_ai_e hv
  exact va_iald S.1 S.2.1 hK.1 (hw.arr h1) 0 0 rfl rfl h2 hdg kk
theorem zw_zald {a : Nat} {i x : Int32} (S : CallFix p m c cc nL s args (w0 :: zc_T) own) (hK : zc_K g s) (hw : zc_W g h H locs) (hv : zf_ai h a 2 i = some x) (hdg : decode cc pc = .ok (.baload, 1))
    (kk : W p l e R s m args below meth c H locs cells slots Q (F0 m (pc + 1) ls (.int x :: rest))) : W p l e R s m args below meth c H locs cells slots Q (F0 m pc ls (.int i :: va_rf (some a) :: rest)) := by
  obtain ⟨n, f, h1, h2, rfl⟩ := zf_ai_e hv
  exact va_zald S.1 S.2.1 hK.1 (hw.arr h1) 0 2 rfl rfl h2 hdg kk
theorem zw_lald {a : Nat} {i : Int32} {x : Int64} (S : CallFix p m c cc nL s args (w0 :: zc_T) own) (hK : zc_K g s) (hw : zc_W g h H locs) (hv : zf_aj h a i = some x) (hdg : decode cc pc = .ok (.laload, 1))
    (kk : W p l e R s m args below meth c H locs cells slots Q (F0 m (pc + 1) ls (.long x :: rest))) : W p l e R s m args below meth c H locs cells slots Q (F0 m pc ls (.int i :: va_rf (some a) :: rest)) := by
  obtain ⟨n, f, h1, h2, rfl⟩ := zf_aj_e hv
  exact va_lald S.1 S.2.1 hK.1 (hw.arr h1) 0 1 rfl rfl h2 hdg kk
theorem zw_aald {a t : Nat} {i : Int32} {x : Option Nat} {C : String} (S : CallFix p m c cc nL s args (w0 :: zc_T) own) (hK : zc_K g s) (hw : zc_W g h H locs) (ht : (zc_tys g)[t]? = some (g.2.1 t, .object C)) (hv : zf_ar h a t i = some x) (hdg : decode cc pc = .ok (.aaload, 1))
    (kk : W p l e R s m args below meth c H locs cells slots Q (F0 m (pc + 1) ls (va_rf x :: rest))) : W p l e R s m args below meth c H locs cells slots Q (F0 m pc ls (.int i :: va_rf (some a) :: rest)) := by
  obtain ⟨n, f, h1, h2, rfl⟩ := zf_ar_e hv
  exact va_aldq S.1 S.2.1 hK.1 (hw.arr h1) 0 t rfl ht h2 hdg kk
theorem zw_alen {a : Nat} {x : Int32} (S : CallFix p m c cc nL s args (w0 :: zc_T) own) (hK : zc_K g s) (hw : zc_W g h H locs) (hv : zf_len h a = some x) (hdg : decode cc pc = .ok (.arraylength, 1))
    (kk : W p l e R s m args below meth c H locs cells slots Q (F0 m (pc + 1) ls (.int x :: rest))) : W p l e R s m args below meth c H locs cells slots Q (F0 m pc ls (va_rf (some a) :: rest)) := by
  rcases zf_len_e hv with ⟨rfl, rfl⟩ | ⟨t, y, h1, h2⟩
  · obtain ⟨cell, h1, h2, h3, h4, h5, h6, h7⟩ := hK.2.2.2.2.2.2.2.1
    exact W.alen (n := 0) S.1 S.2.1 (by rw [hw.2.2.2.2.1.2, hw.2.2.2.1 _ (Nat.not_le.mp h7)]; exact h1) h2 h5 rfl rfl hdg kk
  obtain ⟨ty, ht⟩ := zc_tysA g (hw.2.2.1 a _ h1).2.1
  exact va_alen S.1 S.2.1 hK.1 (hw.arr h1) 0 t rfl ht h2.symm hdg kk
theorem upd_va_up (f : Nat → Int32) (k : Nat) (x : Int32) : upd f k x = va_up f k x := rfl
theorem zc_vI (f : Nat → Int32) (k : Nat) (x : Int32) : updV (fun j => .int (f j)) k (.int x) = fun j => Value.int (va_up f k x j) := by
  funext q
  by_cases hq : q = k
  · subst hq; simp [updV, va_up]
  · simp [updV, va_up, hq]
theorem zc_vJ (f : Nat → Int64) (k : Nat) (x : Int64) : updV (fun j => .long (f j)) k (.long x) = fun j => Value.long (va_up f k x j) := by
  funext q
  by_cases hq : q = k
  · subst hq; simp [updV, va_up]
  · simp [updV, va_up, hq]
theorem zc_vR (f : Nat → Option Nat) (k : Nat) (x : Option Nat) : updV (fun j => va_rf (f j)) k (va_rf x) = fun j => va_rf (va_up f k x j) := by
  funext q
  by_cases hq : q = k
  · subst hq; simp [updV, va_up]
  · simp [updV, va_up, hq]
theorem zw_iast {a : Nat} {i x : Int32} {h2 : zc_H} (S : CallFix p m c cc nL s args (w0 :: zc_T) own) (hK : zc_K g s) (hw : zc_W g h H locs) (hv : zf_si h a 0 i x = some h2) (hdg : decode cc pc = .ok (.iastore, 1))
    (kk : ∀ (H1 : Heap) (locs1 : List Loc), zc_W g h2 H1 locs1 → W p l e R s m args below meth c H1 locs1 cells slots Q (F0 m (pc + 1) ls rest)) : W p l e R s m args below meth c H locs cells slots Q (F0 m pc ls (.int x :: .int i :: va_rf (some a) :: rest)) := by
  obtain ⟨n, f, h1, hin, rfl⟩ := zf_si_e hv
  refine W.iast S.1 S.2.1 (hw.arr h1 0 _ rfl) ((hK.1.2 0 _ rfl).1 n (fun j => .int (f j))) (fun q => by cases q) (by show ¬ (i < 0 ∨ (arrV _ _ _).slots.size ≤ _); rw [arrV_size]; exact hin) rfl rfl hdg fun H1 e1 z oq => ?_
  refine kk H1 _ (hw.up h1 ⟨Nat.le_of_ble_eq_true rfl, ?_⟩ z oq)
  rw [e1, vp_cell_i, vp_cell_i, arrV_store, zc_vI]
theorem zw_last {a : Nat} {i : Int32} {x : Int64} {h2 : zc_H} (S : CallFix p m c cc nL s args (w0 :: zc_T) own) (hK : zc_K g s) (hw : zc_W g h H locs) (hv : zf_sj h a i x = some h2) (hdg : decode cc pc = .ok (.lastore, 1))
    (kk : ∀ (H1 : Heap) (locs1 : List Loc), zc_W g h2 H1 locs1 → W p l e R s m args below meth c H1 locs1 cells slots Q (F0 m (pc + 1) ls rest)) : W p l e R s m args below meth c H locs cells slots Q (F0 m pc ls (.long x :: .int i :: va_rf (some a) :: rest)) := by
  obtain ⟨n, f, h1, hin, rfl⟩ := zf_sj_e hv
  refine W.last S.1 S.2.1 (hw.arr h1 0 _ rfl) ((hK.1.2 1 _ rfl).1 n (fun j => .long (f j))) (fun q => by cases q) (by show ¬ (i < 0 ∨ (arrV _ _ _).slots.size ≤ _); rw [arrV_size]; exact hin) rfl rfl hdg fun H1 e1 z oq => ?_
  refine kk H1 _ (hw.up h1 ⟨Nat.le_of_ble_eq_true rfl, ?_⟩ z oq)
  rw [e1, vp_cell_l, vp_cell_l, arrV_store, zc_vJ]
theorem zw_zast {a : Nat} {i x : Int32} {h2 : zc_H} (S : CallFix p m c cc nL s args (w0 :: zc_T) own) (hK : zc_K g s) (hw : zc_W g h H locs) (hv : zf_si h a 2 i (x &&& 1) = some h2) (hdg : decode cc pc = .ok (.bastore, 1))
    (kk : ∀ (H1 : Heap) (locs1 : List Loc), zc_W g h2 H1 locs1 → W p l e R s m args below meth c H1 locs1 cells slots Q (F0 m (pc + 1) ls rest)) : W p l e R s m args below meth c H locs cells slots Q (F0 m pc ls (.int x :: .int i :: va_rf (some a) :: rest)) := by
  obtain ⟨n, f, h1, hin, rfl⟩ := zf_si_e hv
  refine W.zast S.1 S.2.1 (hw.arr h1 0 _ rfl) ((hK.1.2 2 _ rfl).1 n (fun j => .int (f j))) (fun q => by cases q) (by show ¬ (i < 0 ∨ (arrV _ _ _).slots.size ≤ _); rw [arrV_size]; exact hin) rfl rfl hdg fun H1 e1 z oq => ?_
  refine kk H1 _ (hw.up h1 ⟨Nat.le_of_ble_eq_true rfl, ?_⟩ z oq)
  rw [e1, vp_cell_i, vp_cell_i, arrV_store, ← zc_vI]
  rfl
theorem zw_aast {a v t ci : Nat} {i : Int32} {r : vw_C} {h2 : zc_H} (S : CallFix p m c cc nL s args (w0 :: zc_T) own) (hK : zc_K g s) (hw : zc_W g h H locs) (ht : (zc_tys g)[t]? = some (g.2.1 t, .object r.1)) (ht5 : t < 5) (hc : zc_cl[ci]? = some r) (hv : zf_sr h a t ci i v = some h2) (hdg : decode cc pc = .ok (.aastore, 1))
    (kk : ∀ (H1 : Heap) (locs1 : List Loc), zc_W g h2 H1 locs1 → W p l e R s m args below meth c H1 locs1 cells slots Q (F0 m (pc + 1) ls rest)) : W p l e R s m args below meth c H locs cells slots Q (F0 m pc ls (va_rf (some v) :: .int i :: va_rf (some a) :: rest)) := by
  obtain ⟨n, f, fs, h1, hin, hx, rfl⟩ := zf_sr_e hv
  have hlt : i.toNatClampNeg < n := Nat.not_le.mp fun q => hin (Or.inr q)
  have h0 : ¬ i < 0 := fun q => hin (Or.inl q)
  obtain ⟨r', hr', cellV, g1, g2, g3, -⟩ := hw.obj hx 0 _ rfl
  have hcls := (hK.1.1 ci r hc).2
  obtain ⟨kA, comp, k1, k2, k3, -⟩ := (hK.1.2 t _ ht).2
  have hcomp : comp = g.1.1 ci := Option.some.inj (k3.symm.trans hcls.1)
  subst hcomp
  obtain ⟨kC, hkC, -⟩ := hcls.2
  refine W.aast S.1 S.2.1 (hw.arr h1 0 _ rfl) (fun q h => by cases h) (fun h => by cases h) k1 k2 rfl hkC ⟨h0, by show _ < (arrV _ _ _).slots.size; rw [arrV_size]; exact hlt⟩ g1 (fun q h => by rw [g3] at h; cases h) (by rw [g2]; exact hkC) (by rw [g2]; exact va_assign hcls) rfl rfl hdg fun H1 e1 z oq => ?_
  refine kk H1 _ (hw.up h1 ⟨ht5, ?_⟩ z oq)
  rw [e1, vp_cell_q, vp_cell_q, arrV_store]
  exact congrArg (fun z => some (arrV (g.2.1 t) n z)) (zc_vR f i.toNatClampNeg (some v))
theorem zc_W.push (hw : zc_W g h H locs) {e : va_E} {H1 : Heap} (he : zc_at g h.2.1 e H1) (z : H1.size = H.size + 1) (oq : ∀ x : Nat, x < H.size → H1[x]? = H[x]?) : zc_W g (zf_new h e) H1 locs := by
  obtain ⟨h1, h2, h3, h4, h5, h6⟩ := hw
  refine ⟨by rw [z, h1]; rfl, Nat.le_succ_of_le h2, fun x e' hx => ?_, fun x hx => ?_, h5, h6⟩
  · by_cases hxq : x = h.2.1
    · subst hxq
      have he' : e = e' := by simpa [zf_new, va_up] using hx
      subst he'
      exact ⟨h2, he⟩
    · have hx' : h.1 x = some e' := by simpa [zf_new, va_up, hxq] using hx
      obtain ⟨g1, g2⟩ := h3 x e' hx'
      refine ⟨g1, ?_⟩
      unfold zc_at at g2 ⊢
      cases e' with
      | inl y => exact ⟨g2.1, by rw [oq x (Array.getElem?_eq_some_iff.mp g2.2).1]; exact g2.2⟩
      | inr o => exact va_at.kept g2 (oq x (va_at.lt g2))
  · rw [oq x (by omega)]
    exact h4 x hx
theorem zw_new {C : String} {T : u_T} {N ci : Nat} {ty : Nat → FieldType} {fs : List Value} (S : CallFix p m c cc nL s args (w0 :: zc_T) own) (hK : zc_K g s) (hw : zc_W g h H locs) (hc : zc_cls ci C T N) (hty : ∀ k, k < N → parseFieldDescriptor (T k).2.2.1 = some (ty k)) (hfs : ∀ j, j < N → defaultValue (ty j) = vp_V fs j) (hcl : Cond.classLink own index C ∈ zc_T) (hinst : Cond.instantiable C N ∈ zc_T) (hini : Cond.initialized C ∈ zc_T) (hcells : cells + 1 ≤ R.cells) (hslots : slots + N ≤ R.slots) (hdg : decode cc pc = .ok (.new index, 3))
    (kk : ∀ (H1 : Heap), zc_W g (zf_new h (.inr (ci, fs))) H1 locs → W p l e R s m args below meth c H1 locs (cells + 1) (slots + N) Q (F0 m (pc + 3) ls (va_rf (some h.2.1) :: rest))) : W p l e R s m args below meth c H locs cells slots Q (F0 m pc ls rest) := by
  obtain ⟨hx, hb, hml, hown, hts⟩ := S
  obtain ⟨c1, c2, -, -⟩ := hc
  have hin : ∀ w ∈ u_ws C T N, w ∈ w0 :: zc_T := fun w h => List.mem_cons_of_mem _ (c2 w h)
  have hKn := hK.1.1 ci _ c1
  refine W.newcK hx hb hown (hts _ (List.mem_cons_of_mem _ hcl)) (hts _ (List.mem_cons_of_mem _ hinst)) (hts _ (List.mem_cons_of_mem _ hini)) rfl hdg hcells hslots hKn.2.1 hw.1 fun H1 kC hkC e1 z1 o1 => ?_
  refine kk H1 (hw.push ⟨_, c1, (u_born ty hts hin hKn hkC e1 hty).to hfs⟩ (by rw [z1, hw.1]) (fun x hx => o1 x (by rw [← hw.1]; exact hx)))
end ZA
